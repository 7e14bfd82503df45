/-! what stands at each place of the code -/
theorem dX0_init_0 : decode cX0_init 0 = .ok (.aload_n 0, 1) := by decide +kernel
theorem dX0_init_1 : decode cX0_init 1 = .ok (.invokespecial 3, 3) := by decide +kernel
theorem dX0_init_4 : decode cX0_init 4 = .ok (.aload_n 0, 1) := by decide +kernel
theorem dX0_init_5 : decode cX0_init 5 = .ok (.bipush 16, 2) := by decide +kernel
theorem dX0_init_7 : decode cX0_init 7 = .ok (.newarray .int, 2) := by decide +kernel
theorem dX0_init_9 : decode cX0_init 9 = .ok (.putfield 9, 3) := by decide +kernel
theorem dX0_init_12 : decode cX0_init 12 = .ok (.return_, 1) := by decide +kernel
theorem dX0_answer_0 : decode cX0_answer 0 = .ok (.aload_n 0, 1) := by decide +kernel
theorem dX0_answer_1 : decode cX0_answer 1 = .ok (.iconst 0, 1) := by decide +kernel
theorem dX0_answer_2 : decode cX0_answer 2 = .ok (.putfield 15, 3) := by decide +kernel
theorem dX0_answer_5 : decode cX0_answer 5 = .ok (.aload_n 0, 1) := by decide +kernel
theorem dX0_answer_6 : decode cX0_answer 6 = .ok (.iload_n 2, 1) := by decide +kernel
theorem dX0_answer_7 : decode cX0_answer 7 = .ok (.putfield 19, 3) := by decide +kernel
theorem dX0_answer_10 : decode cX0_answer 10 = .ok (.aload_n 0, 1) := by decide +kernel
theorem dX0_answer_11 : decode cX0_answer 11 = .ok (.aload_n 1, 1) := by decide +kernel
theorem dX0_answer_12 : decode cX0_answer 12 = .ok (.getfield 22, 3) := by decide +kernel
theorem dX0_answer_15 : decode cX0_answer 15 = .ok (.iload_n 2, 1) := by decide +kernel
theorem dX0_answer_16 : decode cX0_answer 16 = .ok (.iaload, 1) := by decide +kernel
theorem dX0_answer_17 : decode cX0_answer 17 = .ok (.putfield 27, 3) := by decide +kernel
theorem dX0_answer_20 : decode cX0_answer 20 = .ok (.aload_n 0, 1) := by decide +kernel
theorem dX0_answer_21 : decode cX0_answer 21 = .ok (.aload_n 1, 1) := by decide +kernel
theorem dX0_answer_22 : decode cX0_answer 22 = .ok (.iload_n 2, 1) := by decide +kernel
theorem dX0_answer_23 : decode cX0_answer 23 = .ok (.aload_n 1, 1) := by decide +kernel
theorem dX0_answer_24 : decode cX0_answer 24 = .ok (.invokevirtual 30, 3) := by decide +kernel
theorem dX0_answer_27 : decode cX0_answer 27 = .ok (.invokevirtual 34, 3) := by decide +kernel
theorem dX0_answer_30 : decode cX0_answer 30 = .ok (.putfield 38, 3) := by decide +kernel
theorem dX0_answer_33 : decode cX0_answer 33 = .ok (.aload_n 0, 1) := by decide +kernel
theorem dX0_answer_34 : decode cX0_answer 34 = .ok (.getstatic 41, 3) := by decide +kernel
theorem dX0_answer_37 : decode cX0_answer 37 = .ok (.aload_n 1, 1) := by decide +kernel
theorem dX0_answer_38 : decode cX0_answer 38 = .ok (.getfield 44, 3) := by decide +kernel
theorem dX0_answer_41 : decode cX0_answer 41 = .ok (.iload_n 2, 1) := by decide +kernel
theorem dX0_answer_42 : decode cX0_answer 42 = .ok (.iaload, 1) := by decide +kernel
theorem dX0_answer_43 : decode cX0_answer 43 = .ok (.invokestatic 47, 3) := by decide +kernel
theorem dX0_answer_46 : decode cX0_answer 46 = .ok (.putfield 51, 3) := by decide +kernel
theorem dX0_answer_49 : decode cX0_answer 49 = .ok (.aload_n 0, 1) := by decide +kernel
theorem dX0_answer_50 : decode cX0_answer 50 = .ok (.getstatic 54, 3) := by decide +kernel
theorem dX0_answer_53 : decode cX0_answer 53 = .ok (.aload_n 1, 1) := by decide +kernel
theorem dX0_answer_54 : decode cX0_answer 54 = .ok (.getfield 44, 3) := by decide +kernel
theorem dX0_answer_57 : decode cX0_answer 57 = .ok (.iload_n 2, 1) := by decide +kernel
theorem dX0_answer_58 : decode cX0_answer 58 = .ok (.iaload, 1) := by decide +kernel
theorem dX0_answer_59 : decode cX0_answer 59 = .ok (.invokestatic 47, 3) := by decide +kernel
theorem dX0_answer_62 : decode cX0_answer 62 = .ok (.putfield 57, 3) := by decide +kernel
theorem dX0_answer_65 : decode cX0_answer 65 = .ok (.aload_n 0, 1) := by decide +kernel
theorem dX0_answer_66 : decode cX0_answer 66 = .ok (.iload_n 3, 1) := by decide +kernel
theorem dX0_answer_67 : decode cX0_answer 67 = .ok (.ifCond .ne 10, 3) := by decide +kernel
theorem dX0_answer_70 : decode cX0_answer 70 = .ok (.aload_n 0, 1) := by decide +kernel
theorem dX0_answer_71 : decode cX0_answer 71 = .ok (.getfield 51, 3) := by decide +kernel
theorem dX0_answer_74 : decode cX0_answer 74 = .ok (.goto 7, 3) := by decide +kernel
theorem dX0_answer_77 : decode cX0_answer 77 = .ok (.aload_n 0, 1) := by decide +kernel
theorem dX0_answer_78 : decode cX0_answer 78 = .ok (.getfield 57, 3) := by decide +kernel
theorem dX0_answer_81 : decode cX0_answer 81 = .ok (.iconst 0, 1) := by decide +kernel
theorem dX0_answer_82 : decode cX0_answer 82 = .ok (.invokevirtual 60, 3) := by decide +kernel
theorem dX0_answer_85 : decode cX0_answer 85 = .ok (.ireturn, 1) := by decide +kernel
theorem dX0_nearest_0 : decode cX0_nearest 0 = .ok (.iload_n 1, 1) := by decide +kernel
theorem dX0_nearest_1 : decode cX0_nearest 1 = .ok (.istore_n 2, 1) := by decide +kernel
theorem dX0_nearest_2 : decode cX0_nearest 2 = .ok (.iconst 0, 1) := by decide +kernel
theorem dX0_nearest_3 : decode cX0_nearest 3 = .ok (.istore_n 3, 1) := by decide +kernel
theorem dX0_nearest_4 : decode cX0_nearest 4 = .ok (.iload_n 3, 1) := by decide +kernel
theorem dX0_nearest_5 : decode cX0_nearest 5 = .ok (.getstatic 63, 3) := by decide +kernel
theorem dX0_nearest_8 : decode cX0_nearest 8 = .ok (.arraylength, 1) := by decide +kernel
theorem dX0_nearest_9 : decode cX0_nearest 9 = .ok (.if_icmp .ge 35, 3) := by decide +kernel
theorem dX0_nearest_12 : decode cX0_nearest 12 = .ok (.iload_n 2, 1) := by decide +kernel
theorem dX0_nearest_13 : decode cX0_nearest 13 = .ok (.ifCond .le 31, 3) := by decide +kernel
theorem dX0_nearest_16 : decode cX0_nearest 16 = .ok (.iload_n 2, 1) := by decide +kernel
theorem dX0_nearest_17 : decode cX0_nearest 17 = .ok (.aload_n 0, 1) := by decide +kernel
theorem dX0_nearest_18 : decode cX0_nearest 18 = .ok (.arraylength, 1) := by decide +kernel
theorem dX0_nearest_19 : decode cX0_nearest 19 = .ok (.if_icmp .ge 25, 3) := by decide +kernel
theorem dX0_nearest_22 : decode cX0_nearest 22 = .ok (.aload_n 0, 1) := by decide +kernel
theorem dX0_nearest_23 : decode cX0_nearest 23 = .ok (.iload_n 2, 1) := by decide +kernel
theorem dX0_nearest_24 : decode cX0_nearest 24 = .ok (.iaload, 1) := by decide +kernel
theorem dX0_nearest_25 : decode cX0_nearest 25 = .ok (.ifCond .eq 7, 3) := by decide +kernel
theorem dX0_nearest_28 : decode cX0_nearest 28 = .ok (.aload_n 0, 1) := by decide +kernel
theorem dX0_nearest_29 : decode cX0_nearest 29 = .ok (.iload_n 2, 1) := by decide +kernel
theorem dX0_nearest_30 : decode cX0_nearest 30 = .ok (.iaload, 1) := by decide +kernel
theorem dX0_nearest_31 : decode cX0_nearest 31 = .ok (.ireturn, 1) := by decide +kernel
theorem dX0_nearest_32 : decode cX0_nearest 32 = .ok (.getstatic 63, 3) := by decide +kernel
theorem dX0_nearest_35 : decode cX0_nearest 35 = .ok (.iload_n 2, 1) := by decide +kernel
theorem dX0_nearest_36 : decode cX0_nearest 36 = .ok (.iaload, 1) := by decide +kernel
theorem dX0_nearest_37 : decode cX0_nearest 37 = .ok (.istore_n 2, 1) := by decide +kernel
theorem dX0_nearest_38 : decode cX0_nearest 38 = .ok (.iinc 3 1, 3) := by decide +kernel
theorem dX0_nearest_41 : decode cX0_nearest 41 = .ok (.goto (-37), 3) := by decide +kernel
theorem dX0_nearest_44 : decode cX0_nearest 44 = .ok (.aload_n 0, 1) := by decide +kernel
theorem dX0_nearest_45 : decode cX0_nearest 45 = .ok (.iconst 0, 1) := by decide +kernel
theorem dX0_nearest_46 : decode cX0_nearest 46 = .ok (.iaload, 1) := by decide +kernel
theorem dX0_nearest_47 : decode cX0_nearest 47 = .ok (.ireturn, 1) := by decide +kernel
theorem dX0_give_0 : decode cX0_give 0 = .ok (.iload_n 2, 1) := by decide +kernel
theorem dX0_give_1 : decode cX0_give 1 = .ok (.bipush 16, 2) := by decide +kernel
theorem dX0_give_3 : decode cX0_give 3 = .ok (.if_icmp .le 5, 3) := by decide +kernel
theorem dX0_give_6 : decode cX0_give 6 = .ok (.iconst 0, 1) := by decide +kernel
theorem dX0_give_7 : decode cX0_give 7 = .ok (.ireturn, 1) := by decide +kernel
theorem dX0_give_8 : decode cX0_give 8 = .ok (.aload_n 0, 1) := by decide +kernel
theorem dX0_give_9 : decode cX0_give 9 = .ok (.iload_n 1, 1) := by decide +kernel
theorem dX0_give_10 : decode cX0_give 10 = .ok (.invokevirtual 66, 3) := by decide +kernel
theorem dX0_give_13 : decode cX0_give 13 = .ok (.iload_n 2, 1) := by decide +kernel
theorem dX0_give_14 : decode cX0_give 14 = .ok (.iconst 1, 1) := by decide +kernel
theorem dX0_give_15 : decode cX0_give 15 = .ok (.iadd, 1) := by decide +kernel
theorem dX0_give_16 : decode cX0_give 16 = .ok (.istore_n 3, 1) := by decide +kernel
theorem dX0_give_17 : decode cX0_give 17 = .ok (.iload_n 1, 1) := by decide +kernel
theorem dX0_give_18 : decode cX0_give 18 = .ok (.tableswitch 185 10 24 #[74, 79, 97, 106, 117, 185, 185, 185, 185, 185, 127, 132, 145, 157, 175], 74) := by decide +kernel
theorem dX0_give_92 : decode cX0_give 92 = .ok (.aload_n 0, 1) := by decide +kernel
theorem dX0_give_93 : decode cX0_give 93 = .ok (.getfield 27, 3) := by decide +kernel
theorem dX0_give_96 : decode cX0_give 96 = .ok (.ireturn, 1) := by decide +kernel
theorem dX0_give_97 : decode cX0_give 97 = .ok (.aload_n 0, 1) := by decide +kernel
theorem dX0_give_98 : decode cX0_give 98 = .ok (.bipush 10, 2) := by decide +kernel
theorem dX0_give_100 : decode cX0_give 100 = .ok (.iload_n 3, 1) := by decide +kernel
theorem dX0_give_101 : decode cX0_give 101 = .ok (.invokevirtual 60, 3) := by decide +kernel
theorem dX0_give_104 : decode cX0_give 104 = .ok (.aload_n 0, 1) := by decide +kernel
theorem dX0_give_105 : decode cX0_give 105 = .ok (.aload_n 0, 1) := by decide +kernel
theorem dX0_give_106 : decode cX0_give 106 = .ok (.getfield 57, 3) := by decide +kernel
theorem dX0_give_109 : decode cX0_give 109 = .ok (.iload_n 3, 1) := by decide +kernel
theorem dX0_give_110 : decode cX0_give 110 = .ok (.invokevirtual 60, 3) := by decide +kernel
theorem dX0_give_113 : decode cX0_give 113 = .ok (.iadd, 1) := by decide +kernel
theorem dX0_give_114 : decode cX0_give 114 = .ok (.ireturn, 1) := by decide +kernel
theorem dX0_give_115 : decode cX0_give 115 = .ok (.aload_n 0, 1) := by decide +kernel
theorem dX0_give_116 : decode cX0_give 116 = .ok (.bipush 11, 2) := by decide +kernel
theorem dX0_give_118 : decode cX0_give 118 = .ok (.iload_n 3, 1) := by decide +kernel
theorem dX0_give_119 : decode cX0_give 119 = .ok (.invokevirtual 60, 3) := by decide +kernel
theorem dX0_give_122 : decode cX0_give 122 = .ok (.ineg, 1) := by decide +kernel
theorem dX0_give_123 : decode cX0_give 123 = .ok (.ireturn, 1) := by decide +kernel
theorem dX0_give_124 : decode cX0_give 124 = .ok (.aload_n 0, 1) := by decide +kernel
theorem dX0_give_125 : decode cX0_give 125 = .ok (.bipush 10, 2) := by decide +kernel
theorem dX0_give_127 : decode cX0_give 127 = .ok (.iload_n 3, 1) := by decide +kernel
theorem dX0_give_128 : decode cX0_give 128 = .ok (.invokevirtual 60, 3) := by decide +kernel
theorem dX0_give_131 : decode cX0_give 131 = .ok (.bipush 100, 2) := by decide +kernel
theorem dX0_give_133 : decode cX0_give 133 = .ok (.isub, 1) := by decide +kernel
theorem dX0_give_134 : decode cX0_give 134 = .ok (.ireturn, 1) := by decide +kernel
theorem dX0_give_135 : decode cX0_give 135 = .ok (.iconst 2, 1) := by decide +kernel
theorem dX0_give_136 : decode cX0_give 136 = .ok (.aload_n 0, 1) := by decide +kernel
theorem dX0_give_137 : decode cX0_give 137 = .ok (.bipush 13, 2) := by decide +kernel
theorem dX0_give_139 : decode cX0_give 139 = .ok (.iload_n 3, 1) := by decide +kernel
theorem dX0_give_140 : decode cX0_give 140 = .ok (.invokevirtual 60, 3) := by decide +kernel
theorem dX0_give_143 : decode cX0_give 143 = .ok (.imul, 1) := by decide +kernel
theorem dX0_give_144 : decode cX0_give 144 = .ok (.ireturn, 1) := by decide +kernel
theorem dX0_give_145 : decode cX0_give 145 = .ok (.aload_n 0, 1) := by decide +kernel
theorem dX0_give_146 : decode cX0_give 146 = .ok (.getfield 19, 3) := by decide +kernel
theorem dX0_give_149 : decode cX0_give 149 = .ok (.ireturn, 1) := by decide +kernel
theorem dX0_give_150 : decode cX0_give 150 = .ok (.aload_n 0, 1) := by decide +kernel
theorem dX0_give_151 : decode cX0_give 151 = .ok (.bipush 20, 2) := by decide +kernel
theorem dX0_give_153 : decode cX0_give 153 = .ok (.iload_n 3, 1) := by decide +kernel
theorem dX0_give_154 : decode cX0_give 154 = .ok (.invokevirtual 60, 3) := by decide +kernel
theorem dX0_give_157 : decode cX0_give 157 = .ok (.aload_n 0, 1) := by decide +kernel
theorem dX0_give_158 : decode cX0_give 158 = .ok (.getfield 38, 3) := by decide +kernel
theorem dX0_give_161 : decode cX0_give 161 = .ok (.iadd, 1) := by decide +kernel
theorem dX0_give_162 : decode cX0_give 162 = .ok (.ireturn, 1) := by decide +kernel
theorem dX0_give_163 : decode cX0_give 163 = .ok (.aload_n 0, 1) := by decide +kernel
theorem dX0_give_164 : decode cX0_give 164 = .ok (.bipush 21, 2) := by decide +kernel
theorem dX0_give_166 : decode cX0_give 166 = .ok (.iload_n 3, 1) := by decide +kernel
theorem dX0_give_167 : decode cX0_give 167 = .ok (.invokevirtual 60, 3) := by decide +kernel
theorem dX0_give_170 : decode cX0_give 170 = .ok (.sipush 1000, 3) := by decide +kernel
theorem dX0_give_173 : decode cX0_give 173 = .ok (.isub, 1) := by decide +kernel
theorem dX0_give_174 : decode cX0_give 174 = .ok (.ireturn, 1) := by decide +kernel
theorem dX0_give_175 : decode cX0_give 175 = .ok (.aload_n 0, 1) := by decide +kernel
theorem dX0_give_176 : decode cX0_give 176 = .ok (.bipush 20, 2) := by decide +kernel
theorem dX0_give_178 : decode cX0_give 178 = .ok (.iload_n 3, 1) := by decide +kernel
theorem dX0_give_179 : decode cX0_give 179 = .ok (.invokevirtual 60, 3) := by decide +kernel
theorem dX0_give_182 : decode cX0_give 182 = .ok (.aload_n 0, 1) := by decide +kernel
theorem dX0_give_183 : decode cX0_give 183 = .ok (.aload_n 0, 1) := by decide +kernel
theorem dX0_give_184 : decode cX0_give 184 = .ok (.getfield 51, 3) := by decide +kernel
theorem dX0_give_187 : decode cX0_give 187 = .ok (.iload_n 3, 1) := by decide +kernel
theorem dX0_give_188 : decode cX0_give 188 = .ok (.invokevirtual 60, 3) := by decide +kernel
theorem dX0_give_191 : decode cX0_give 191 = .ok (.isub, 1) := by decide +kernel
theorem dX0_give_192 : decode cX0_give 192 = .ok (.ireturn, 1) := by decide +kernel
theorem dX0_give_193 : decode cX0_give 193 = .ok (.iconst 2, 1) := by decide +kernel
theorem dX0_give_194 : decode cX0_give 194 = .ok (.aload_n 0, 1) := by decide +kernel
theorem dX0_give_195 : decode cX0_give 195 = .ok (.bipush 21, 2) := by decide +kernel
theorem dX0_give_197 : decode cX0_give 197 = .ok (.iload_n 3, 1) := by decide +kernel
theorem dX0_give_198 : decode cX0_give 198 = .ok (.invokevirtual 60, 3) := by decide +kernel
theorem dX0_give_201 : decode cX0_give 201 = .ok (.imul, 1) := by decide +kernel
theorem dX0_give_202 : decode cX0_give 202 = .ok (.ireturn, 1) := by decide +kernel
theorem dX0_give_203 : decode cX0_give 203 = .ok (.iconst 0, 1) := by decide +kernel
theorem dX0_give_204 : decode cX0_give 204 = .ok (.ireturn, 1) := by decide +kernel
theorem dX0_leave_0 : decode cX0_leave 0 = .ok (.aload_n 0, 1) := by decide +kernel
theorem dX0_leave_1 : decode cX0_leave 1 = .ok (.getfield 15, 3) := by decide +kernel
theorem dX0_leave_4 : decode cX0_leave 4 = .ok (.bipush 16, 2) := by decide +kernel
theorem dX0_leave_6 : decode cX0_leave 6 = .ok (.if_icmp .ge 23, 3) := by decide +kernel
theorem dX0_leave_9 : decode cX0_leave 9 = .ok (.aload_n 0, 1) := by decide +kernel
theorem dX0_leave_10 : decode cX0_leave 10 = .ok (.getfield 9, 3) := by decide +kernel
theorem dX0_leave_13 : decode cX0_leave 13 = .ok (.aload_n 0, 1) := by decide +kernel
theorem dX0_leave_14 : decode cX0_leave 14 = .ok (.getfield 15, 3) := by decide +kernel
theorem dX0_leave_17 : decode cX0_leave 17 = .ok (.iload_n 1, 1) := by decide +kernel
theorem dX0_leave_18 : decode cX0_leave 18 = .ok (.iastore, 1) := by decide +kernel
theorem dX0_leave_19 : decode cX0_leave 19 = .ok (.aload_n 0, 1) := by decide +kernel
theorem dX0_leave_20 : decode cX0_leave 20 = .ok (.dup, 1) := by decide +kernel
theorem dX0_leave_21 : decode cX0_leave 21 = .ok (.getfield 15, 3) := by decide +kernel
theorem dX0_leave_24 : decode cX0_leave 24 = .ok (.iconst 1, 1) := by decide +kernel
theorem dX0_leave_25 : decode cX0_leave 25 = .ok (.iadd, 1) := by decide +kernel
theorem dX0_leave_26 : decode cX0_leave 26 = .ok (.putfield 15, 3) := by decide +kernel
theorem dX0_leave_29 : decode cX0_leave 29 = .ok (.return_, 1) := by decide +kernel
theorem dX1_init_0 : decode cX1_init 0 = .ok (.aload_n 0, 1) := by decide +kernel
theorem dX1_init_1 : decode cX1_init 1 = .ok (.invokespecial 3, 3) := by decide +kernel
theorem dX1_init_4 : decode cX1_init 4 = .ok (.aload_n 0, 1) := by decide +kernel
theorem dX1_init_5 : decode cX1_init 5 = .ok (.new 9, 3) := by decide +kernel
theorem dX1_init_8 : decode cX1_init 8 = .ok (.dup, 1) := by decide +kernel
theorem dX1_init_9 : decode cX1_init 9 = .ok (.invokespecial 11, 3) := by decide +kernel
theorem dX1_init_12 : decode cX1_init 12 = .ok (.putfield 12, 3) := by decide +kernel
theorem dX1_init_15 : decode cX1_init 15 = .ok (.aload_n 0, 1) := by decide +kernel
theorem dX1_init_16 : decode cX1_init 16 = .ok (.bipush 9, 2) := by decide +kernel
theorem dX1_init_18 : decode cX1_init 18 = .ok (.anewarray 9, 3) := by decide +kernel
theorem dX1_init_21 : decode cX1_init 21 = .ok (.putfield 18, 3) := by decide +kernel
theorem dX1_init_24 : decode cX1_init 24 = .ok (.aload_n 0, 1) := by decide +kernel
theorem dX1_init_25 : decode cX1_init 25 = .ok (.bipush 12, 2) := by decide +kernel
theorem dX1_init_27 : decode cX1_init 27 = .ok (.newarray .int, 2) := by decide +kernel
theorem dX1_init_29 : decode cX1_init 29 = .ok (.putfield 22, 3) := by decide +kernel
theorem dX1_init_32 : decode cX1_init 32 = .ok (.iconst 0, 1) := by decide +kernel
theorem dX1_init_33 : decode cX1_init 33 = .ok (.istore_n 1, 1) := by decide +kernel
theorem dX1_init_34 : decode cX1_init 34 = .ok (.iload_n 1, 1) := by decide +kernel
theorem dX1_init_35 : decode cX1_init 35 = .ok (.aload_n 0, 1) := by decide +kernel
theorem dX1_init_36 : decode cX1_init 36 = .ok (.getfield 18, 3) := by decide +kernel
theorem dX1_init_39 : decode cX1_init 39 = .ok (.arraylength, 1) := by decide +kernel
theorem dX1_init_40 : decode cX1_init 40 = .ok (.if_icmp .ge 22, 3) := by decide +kernel
theorem dX1_init_43 : decode cX1_init 43 = .ok (.aload_n 0, 1) := by decide +kernel
theorem dX1_init_44 : decode cX1_init 44 = .ok (.getfield 18, 3) := by decide +kernel
theorem dX1_init_47 : decode cX1_init 47 = .ok (.iload_n 1, 1) := by decide +kernel
theorem dX1_init_48 : decode cX1_init 48 = .ok (.new 9, 3) := by decide +kernel
theorem dX1_init_51 : decode cX1_init 51 = .ok (.dup, 1) := by decide +kernel
theorem dX1_init_52 : decode cX1_init 52 = .ok (.invokespecial 11, 3) := by decide +kernel
theorem dX1_init_55 : decode cX1_init 55 = .ok (.aastore, 1) := by decide +kernel
theorem dX1_init_56 : decode cX1_init 56 = .ok (.iinc 1 1, 3) := by decide +kernel
theorem dX1_init_59 : decode cX1_init 59 = .ok (.goto (-25), 3) := by decide +kernel
theorem dX1_init_62 : decode cX1_init 62 = .ok (.return_, 1) := by decide +kernel
theorem dX1_after_0 : decode cX1_after 0 = .ok (.aload_n 0, 1) := by decide +kernel
theorem dX1_after_1 : decode cX1_after 1 = .ok (.getfield 12, 3) := by decide +kernel
theorem dX1_after_4 : decode cX1_after 4 = .ok (.aload_n 1, 1) := by decide +kernel
theorem dX1_after_5 : decode cX1_after 5 = .ok (.invokevirtual 26, 3) := by decide +kernel
theorem dX1_after_8 : decode cX1_after 8 = .ok (.aload_n 0, 1) := by decide +kernel
theorem dX1_after_9 : decode cX1_after 9 = .ok (.getfield 12, 3) := by decide +kernel
theorem dX1_after_12 : decode cX1_after 12 = .ok (.iload_n 2, 1) := by decide +kernel
theorem dX1_after_13 : decode cX1_after 13 = .ok (.invokevirtual 30, 3) := by decide +kernel
theorem dX1_after_16 : decode cX1_after 16 = .ok (.aload_n 0, 1) := by decide +kernel
theorem dX1_after_17 : decode cX1_after 17 = .ok (.getfield 12, 3) := by decide +kernel
theorem dX1_after_20 : decode cX1_after 20 = .ok (.areturn, 1) := by decide +kernel
theorem dX1_firstAsleep_0 : decode cX1_firstAsleep 0 = .ok (.aload_n 0, 1) := by decide +kernel
theorem dX1_firstAsleep_1 : decode cX1_firstAsleep 1 = .ok (.getfield 12, 3) := by decide +kernel
theorem dX1_firstAsleep_4 : decode cX1_firstAsleep 4 = .ok (.aload_n 1, 1) := by decide +kernel
theorem dX1_firstAsleep_5 : decode cX1_firstAsleep 5 = .ok (.invokevirtual 26, 3) := by decide +kernel
theorem dX1_firstAsleep_8 : decode cX1_firstAsleep 8 = .ok (.iconst 0, 1) := by decide +kernel
theorem dX1_firstAsleep_9 : decode cX1_firstAsleep 9 = .ok (.istore_n 3, 1) := by decide +kernel
theorem dX1_firstAsleep_10 : decode cX1_firstAsleep 10 = .ok (.iload_n 3, 1) := by decide +kernel
theorem dX1_firstAsleep_11 : decode cX1_firstAsleep 11 = .ok (.bipush 60, 2) := by decide +kernel
theorem dX1_firstAsleep_13 : decode cX1_firstAsleep 13 = .ok (.if_icmp .ge 35, 3) := by decide +kernel
theorem dX1_firstAsleep_16 : decode cX1_firstAsleep 16 = .ok (.aload_n 0, 1) := by decide +kernel
theorem dX1_firstAsleep_17 : decode cX1_firstAsleep 17 = .ok (.getfield 12, 3) := by decide +kernel
theorem dX1_firstAsleep_20 : decode cX1_firstAsleep 20 = .ok (.iload_n 2, 1) := by decide +kernel
theorem dX1_firstAsleep_21 : decode cX1_firstAsleep 21 = .ok (.invokevirtual 34, 3) := by decide +kernel
theorem dX1_firstAsleep_24 : decode cX1_firstAsleep 24 = .ok (.ifCond .eq 5, 3) := by decide +kernel
theorem dX1_firstAsleep_27 : decode cX1_firstAsleep 27 = .ok (.iload_n 3, 1) := by decide +kernel
theorem dX1_firstAsleep_28 : decode cX1_firstAsleep 28 = .ok (.ireturn, 1) := by decide +kernel
theorem dX1_firstAsleep_29 : decode cX1_firstAsleep 29 = .ok (.aload_n 0, 1) := by decide +kernel
theorem dX1_firstAsleep_30 : decode cX1_firstAsleep 30 = .ok (.getfield 12, 3) := by decide +kernel
theorem dX1_firstAsleep_33 : decode cX1_firstAsleep 33 = .ok (.invokevirtual 38, 3) := by decide +kernel
theorem dX1_firstAsleep_36 : decode cX1_firstAsleep 36 = .ok (.ifCond .ne 6, 3) := by decide +kernel
theorem dX1_firstAsleep_39 : decode cX1_firstAsleep 39 = .ok (.ldc 42, 2) := by decide +kernel
theorem dX1_firstAsleep_41 : decode cX1_firstAsleep 41 = .ok (.ireturn, 1) := by decide +kernel
theorem dX1_firstAsleep_42 : decode cX1_firstAsleep 42 = .ok (.iinc 3 1, 3) := by decide +kernel
theorem dX1_firstAsleep_45 : decode cX1_firstAsleep 45 = .ok (.goto (-35), 3) := by decide +kernel
theorem dX1_firstAsleep_48 : decode cX1_firstAsleep 48 = .ok (.aload_n 0, 1) := by decide +kernel
theorem dX1_firstAsleep_49 : decode cX1_firstAsleep 49 = .ok (.getfield 12, 3) := by decide +kernel
theorem dX1_firstAsleep_52 : decode cX1_firstAsleep 52 = .ok (.iload_n 2, 1) := by decide +kernel
theorem dX1_firstAsleep_53 : decode cX1_firstAsleep 53 = .ok (.invokevirtual 34, 3) := by decide +kernel
theorem dX1_firstAsleep_56 : decode cX1_firstAsleep 56 = .ok (.ifCond .eq 8, 3) := by decide +kernel
theorem dX1_firstAsleep_59 : decode cX1_firstAsleep 59 = .ok (.bipush 60, 2) := by decide +kernel
theorem dX1_firstAsleep_61 : decode cX1_firstAsleep 61 = .ok (.goto 5, 3) := by decide +kernel
theorem dX1_firstAsleep_64 : decode cX1_firstAsleep 64 = .ok (.ldc 42, 2) := by decide +kernel
theorem dX1_firstAsleep_66 : decode cX1_firstAsleep 66 = .ok (.ireturn, 1) := by decide +kernel
theorem dX1_longestDinner_0 : decode cX1_longestDinner 0 = .ok (.aload_n 0, 1) := by decide +kernel
theorem dX1_longestDinner_1 : decode cX1_longestDinner 1 = .ok (.getfield 12, 3) := by decide +kernel
theorem dX1_longestDinner_4 : decode cX1_longestDinner 4 = .ok (.aload_n 1, 1) := by decide +kernel
theorem dX1_longestDinner_5 : decode cX1_longestDinner 5 = .ok (.invokevirtual 26, 3) := by decide +kernel
theorem dX1_longestDinner_8 : decode cX1_longestDinner 8 = .ok (.aload_n 1, 1) := by decide +kernel
theorem dX1_longestDinner_9 : decode cX1_longestDinner 9 = .ok (.invokevirtual 43, 3) := by decide +kernel
theorem dX1_longestDinner_12 : decode cX1_longestDinner 12 = .ok (.aload_n 1, 1) := by decide +kernel
theorem dX1_longestDinner_13 : decode cX1_longestDinner 13 = .ok (.getfield 47, 3) := by decide +kernel
theorem dX1_longestDinner_16 : decode cX1_longestDinner 16 = .ok (.iconst (-1), 1) := by decide +kernel
theorem dX1_longestDinner_17 : decode cX1_longestDinner 17 = .ok (.ixor, 1) := by decide +kernel
theorem dX1_longestDinner_18 : decode cX1_longestDinner 18 = .ok (.iand, 1) := by decide +kernel
theorem dX1_longestDinner_19 : decode cX1_longestDinner 19 = .ok (.istore_n 3, 1) := by decide +kernel
theorem dX1_longestDinner_20 : decode cX1_longestDinner 20 = .ok (.iconst 0, 1) := by decide +kernel
theorem dX1_longestDinner_21 : decode cX1_longestDinner 21 = .ok (.istore 4, 2) := by decide +kernel
theorem dX1_longestDinner_23 : decode cX1_longestDinner 23 = .ok (.iconst 0, 1) := by decide +kernel
theorem dX1_longestDinner_24 : decode cX1_longestDinner 24 = .ok (.istore 5, 2) := by decide +kernel
theorem dX1_longestDinner_26 : decode cX1_longestDinner 26 = .ok (.iconst 0, 1) := by decide +kernel
theorem dX1_longestDinner_27 : decode cX1_longestDinner 27 = .ok (.istore 6, 2) := by decide +kernel
theorem dX1_longestDinner_29 : decode cX1_longestDinner 29 = .ok (.iload 6, 2) := by decide +kernel
theorem dX1_longestDinner_31 : decode cX1_longestDinner 31 = .ok (.iload_n 2, 1) := by decide +kernel
theorem dX1_longestDinner_32 : decode cX1_longestDinner 32 = .ok (.if_icmp .ge 47, 3) := by decide +kernel
theorem dX1_longestDinner_35 : decode cX1_longestDinner 35 = .ok (.aload_n 0, 1) := by decide +kernel
theorem dX1_longestDinner_36 : decode cX1_longestDinner 36 = .ok (.getfield 12, 3) := by decide +kernel
theorem dX1_longestDinner_39 : decode cX1_longestDinner 39 = .ok (.invokevirtual 38, 3) := by decide +kernel
theorem dX1_longestDinner_42 : decode cX1_longestDinner 42 = .ok (.pop, 1) := by decide +kernel
theorem dX1_longestDinner_43 : decode cX1_longestDinner 43 = .ok (.aload_n 0, 1) := by decide +kernel
theorem dX1_longestDinner_44 : decode cX1_longestDinner 44 = .ok (.getfield 12, 3) := by decide +kernel
theorem dX1_longestDinner_47 : decode cX1_longestDinner 47 = .ok (.iload_n 3, 1) := by decide +kernel
theorem dX1_longestDinner_48 : decode cX1_longestDinner 48 = .ok (.invokevirtual 34, 3) := by decide +kernel
theorem dX1_longestDinner_51 : decode cX1_longestDinner 51 = .ok (.ifCond .eq 10, 3) := by decide +kernel
theorem dX1_longestDinner_54 : decode cX1_longestDinner 54 = .ok (.iload 5, 2) := by decide +kernel
theorem dX1_longestDinner_56 : decode cX1_longestDinner 56 = .ok (.iconst 1, 1) := by decide +kernel
theorem dX1_longestDinner_57 : decode cX1_longestDinner 57 = .ok (.iadd, 1) := by decide +kernel
theorem dX1_longestDinner_58 : decode cX1_longestDinner 58 = .ok (.goto 4, 3) := by decide +kernel
theorem dX1_longestDinner_61 : decode cX1_longestDinner 61 = .ok (.iconst 0, 1) := by decide +kernel
theorem dX1_longestDinner_62 : decode cX1_longestDinner 62 = .ok (.istore 5, 2) := by decide +kernel
theorem dX1_longestDinner_64 : decode cX1_longestDinner 64 = .ok (.iload 4, 2) := by decide +kernel
theorem dX1_longestDinner_66 : decode cX1_longestDinner 66 = .ok (.iload 5, 2) := by decide +kernel
theorem dX1_longestDinner_68 : decode cX1_longestDinner 68 = .ok (.invokestatic 51, 3) := by decide +kernel
theorem dX1_longestDinner_71 : decode cX1_longestDinner 71 = .ok (.istore 4, 2) := by decide +kernel
theorem dX1_longestDinner_73 : decode cX1_longestDinner 73 = .ok (.iinc 6 1, 3) := by decide +kernel
theorem dX1_longestDinner_76 : decode cX1_longestDinner 76 = .ok (.goto (-47), 3) := by decide +kernel
theorem dX1_longestDinner_79 : decode cX1_longestDinner 79 = .ok (.iload 4, 2) := by decide +kernel
theorem dX1_longestDinner_81 : decode cX1_longestDinner 81 = .ok (.ireturn, 1) := by decide +kernel
theorem dX1_planHands_0 : decode cX1_planHands 0 = .ok (.aload_n 0, 1) := by decide +kernel
theorem dX1_planHands_1 : decode cX1_planHands 1 = .ok (.iconst (-1), 1) := by decide +kernel
theorem dX1_planHands_2 : decode cX1_planHands 2 = .ok (.putfield 57, 3) := by decide +kernel
theorem dX1_planHands_5 : decode cX1_planHands 5 = .ok (.iconst 0, 1) := by decide +kernel
theorem dX1_planHands_6 : decode cX1_planHands 6 = .ok (.istore_n 3, 1) := by decide +kernel
theorem dX1_planHands_7 : decode cX1_planHands 7 = .ok (.iload_n 3, 1) := by decide +kernel
theorem dX1_planHands_8 : decode cX1_planHands 8 = .ok (.aload_n 1, 1) := by decide +kernel
theorem dX1_planHands_9 : decode cX1_planHands 9 = .ok (.invokevirtual 43, 3) := by decide +kernel
theorem dX1_planHands_12 : decode cX1_planHands 12 = .ok (.if_icmp .gt 60, 3) := by decide +kernel
theorem dX1_planHands_15 : decode cX1_planHands 15 = .ok (.iload_n 3, 1) := by decide +kernel
theorem dX1_planHands_16 : decode cX1_planHands 16 = .ok (.invokestatic 60, 3) := by decide +kernel
theorem dX1_planHands_19 : decode cX1_planHands 19 = .ok (.aload_n 1, 1) := by decide +kernel
theorem dX1_planHands_20 : decode cX1_planHands 20 = .ok (.getfield 66, 3) := by decide +kernel
theorem dX1_planHands_23 : decode cX1_planHands 23 = .ok (.if_icmp .gt 43, 3) := by decide +kernel
theorem dX1_planHands_26 : decode cX1_planHands 26 = .ok (.aload_n 0, 1) := by decide +kernel
theorem dX1_planHands_27 : decode cX1_planHands 27 = .ok (.getfield 12, 3) := by decide +kernel
theorem dX1_planHands_30 : decode cX1_planHands 30 = .ok (.aload_n 1, 1) := by decide +kernel
theorem dX1_planHands_31 : decode cX1_planHands 31 = .ok (.invokevirtual 26, 3) := by decide +kernel
theorem dX1_planHands_34 : decode cX1_planHands 34 = .ok (.aload_n 0, 1) := by decide +kernel
theorem dX1_planHands_35 : decode cX1_planHands 35 = .ok (.getfield 12, 3) := by decide +kernel
theorem dX1_planHands_38 : decode cX1_planHands 38 = .ok (.iload_n 3, 1) := by decide +kernel
theorem dX1_planHands_39 : decode cX1_planHands 39 = .ok (.putfield 69, 3) := by decide +kernel
theorem dX1_planHands_42 : decode cX1_planHands 42 = .ok (.aload_n 0, 1) := by decide +kernel
theorem dX1_planHands_43 : decode cX1_planHands 43 = .ok (.getfield 12, 3) := by decide +kernel
theorem dX1_planHands_46 : decode cX1_planHands 46 = .ok (.iload_n 2, 1) := by decide +kernel
theorem dX1_planHands_47 : decode cX1_planHands 47 = .ok (.invokevirtual 30, 3) := by decide +kernel
theorem dX1_planHands_50 : decode cX1_planHands 50 = .ok (.aload_n 0, 1) := by decide +kernel
theorem dX1_planHands_51 : decode cX1_planHands 51 = .ok (.iload_n 3, 1) := by decide +kernel
theorem dX1_planHands_52 : decode cX1_planHands 52 = .ok (.aload_n 0, 1) := by decide +kernel
theorem dX1_planHands_53 : decode cX1_planHands 53 = .ok (.getfield 12, 3) := by decide +kernel
theorem dX1_planHands_56 : decode cX1_planHands 56 = .ok (.iconst 2, 1) := by decide +kernel
theorem dX1_planHands_57 : decode cX1_planHands 57 = .ok (.invokevirtual 72, 3) := by decide +kernel
theorem dX1_planHands_60 : decode cX1_planHands 60 = .ok (.invokestatic 60, 3) := by decide +kernel
theorem dX1_planHands_63 : decode cX1_planHands 63 = .ok (.invokevirtual 75, 3) := by decide +kernel
theorem dX1_planHands_66 : decode cX1_planHands 66 = .ok (.iinc 3 1, 3) := by decide +kernel
theorem dX1_planHands_69 : decode cX1_planHands 69 = .ok (.goto (-62), 3) := by decide +kernel
theorem dX1_planHands_72 : decode cX1_planHands 72 = .ok (.return_, 1) := by decide +kernel
theorem dX1_weighHands_0 : decode cX1_weighHands 0 = .ok (.iload_n 1, 1) := by decide +kernel
theorem dX1_weighHands_1 : decode cX1_weighHands 1 = .ok (.invokestatic 60, 3) := by decide +kernel
theorem dX1_weighHands_4 : decode cX1_weighHands 4 = .ok (.aload_n 0, 1) := by decide +kernel
theorem dX1_weighHands_5 : decode cX1_weighHands 5 = .ok (.getfield 79, 3) := by decide +kernel
theorem dX1_weighHands_8 : decode cX1_weighHands 8 = .ok (.invokestatic 60, 3) := by decide +kernel
theorem dX1_weighHands_11 : decode cX1_weighHands 11 = .ok (.if_icmp .ge 7, 3) := by decide +kernel
theorem dX1_weighHands_14 : decode cX1_weighHands 14 = .ok (.iconst 1, 1) := by decide +kernel
theorem dX1_weighHands_15 : decode cX1_weighHands 15 = .ok (.goto 4, 3) := by decide +kernel
theorem dX1_weighHands_18 : decode cX1_weighHands 18 = .ok (.iconst 0, 1) := by decide +kernel
theorem dX1_weighHands_19 : decode cX1_weighHands 19 = .ok (.istore_n 3, 1) := by decide +kernel
theorem dX1_weighHands_20 : decode cX1_weighHands 20 = .ok (.iload_n 2, 1) := by decide +kernel
theorem dX1_weighHands_21 : decode cX1_weighHands 21 = .ok (.aload_n 0, 1) := by decide +kernel
theorem dX1_weighHands_22 : decode cX1_weighHands 22 = .ok (.getfield 57, 3) := by decide +kernel
theorem dX1_weighHands_25 : decode cX1_weighHands 25 = .ok (.if_icmp .gt 15, 3) := by decide +kernel
theorem dX1_weighHands_28 : decode cX1_weighHands 28 = .ok (.iload_n 2, 1) := by decide +kernel
theorem dX1_weighHands_29 : decode cX1_weighHands 29 = .ok (.aload_n 0, 1) := by decide +kernel
theorem dX1_weighHands_30 : decode cX1_weighHands 30 = .ok (.getfield 57, 3) := by decide +kernel
theorem dX1_weighHands_33 : decode cX1_weighHands 33 = .ok (.if_icmp .ne 17, 3) := by decide +kernel
theorem dX1_weighHands_36 : decode cX1_weighHands 36 = .ok (.iload_n 3, 1) := by decide +kernel
theorem dX1_weighHands_37 : decode cX1_weighHands 37 = .ok (.ifCond .eq 13, 3) := by decide +kernel
theorem dX1_weighHands_40 : decode cX1_weighHands 40 = .ok (.aload_n 0, 1) := by decide +kernel
theorem dX1_weighHands_41 : decode cX1_weighHands 41 = .ok (.iload_n 1, 1) := by decide +kernel
theorem dX1_weighHands_42 : decode cX1_weighHands 42 = .ok (.putfield 79, 3) := by decide +kernel
theorem dX1_weighHands_45 : decode cX1_weighHands 45 = .ok (.aload_n 0, 1) := by decide +kernel
theorem dX1_weighHands_46 : decode cX1_weighHands 46 = .ok (.iload_n 2, 1) := by decide +kernel
theorem dX1_weighHands_47 : decode cX1_weighHands 47 = .ok (.putfield 57, 3) := by decide +kernel
theorem dX1_weighHands_50 : decode cX1_weighHands 50 = .ok (.return_, 1) := by decide +kernel
theorem dX1_fewestOut_0 : decode cX1_fewestOut 0 = .ok (.aload_n 1, 1) := by decide +kernel
theorem dX1_fewestOut_1 : decode cX1_fewestOut 1 = .ok (.invokevirtual 43, 3) := by decide +kernel
theorem dX1_fewestOut_4 : decode cX1_fewestOut 4 = .ok (.aload_n 1, 1) := by decide +kernel
theorem dX1_fewestOut_5 : decode cX1_fewestOut 5 = .ok (.getfield 47, 3) := by decide +kernel
theorem dX1_fewestOut_8 : decode cX1_fewestOut 8 = .ok (.iconst (-1), 1) := by decide +kernel
theorem dX1_fewestOut_9 : decode cX1_fewestOut 9 = .ok (.ixor, 1) := by decide +kernel
theorem dX1_fewestOut_10 : decode cX1_fewestOut 10 = .ok (.iand, 1) := by decide +kernel
theorem dX1_fewestOut_11 : decode cX1_fewestOut 11 = .ok (.istore_n 3, 1) := by decide +kernel
theorem dX1_fewestOut_12 : decode cX1_fewestOut 12 = .ok (.iconst 0, 1) := by decide +kernel
theorem dX1_fewestOut_13 : decode cX1_fewestOut 13 = .ok (.istore 4, 2) := by decide +kernel
theorem dX1_fewestOut_15 : decode cX1_fewestOut 15 = .ok (.iload 4, 2) := by decide +kernel
theorem dX1_fewestOut_17 : decode cX1_fewestOut 17 = .ok (.aload_n 1, 1) := by decide +kernel
theorem dX1_fewestOut_18 : decode cX1_fewestOut 18 = .ok (.invokevirtual 43, 3) := by decide +kernel
theorem dX1_fewestOut_21 : decode cX1_fewestOut 21 = .ok (.if_icmp .gt 95, 3) := by decide +kernel
theorem dX1_fewestOut_24 : decode cX1_fewestOut 24 = .ok (.iload 4, 2) := by decide +kernel
theorem dX1_fewestOut_26 : decode cX1_fewestOut 26 = .ok (.aload_n 1, 1) := by decide +kernel
theorem dX1_fewestOut_27 : decode cX1_fewestOut 27 = .ok (.getfield 47, 3) := by decide +kernel
theorem dX1_fewestOut_30 : decode cX1_fewestOut 30 = .ok (.iand, 1) := by decide +kernel
theorem dX1_fewestOut_31 : decode cX1_fewestOut 31 = .ok (.ifCond .ne 79, 3) := by decide +kernel
theorem dX1_fewestOut_34 : decode cX1_fewestOut 34 = .ok (.iload 4, 2) := by decide +kernel
theorem dX1_fewestOut_36 : decode cX1_fewestOut 36 = .ok (.invokestatic 60, 3) := by decide +kernel
theorem dX1_fewestOut_39 : decode cX1_fewestOut 39 = .ok (.iload_n 3, 1) := by decide +kernel
theorem dX1_fewestOut_40 : decode cX1_fewestOut 40 = .ok (.invokestatic 60, 3) := by decide +kernel
theorem dX1_fewestOut_43 : decode cX1_fewestOut 43 = .ok (.if_icmp .ge 67, 3) := by decide +kernel
theorem dX1_fewestOut_46 : decode cX1_fewestOut 46 = .ok (.aload_n 0, 1) := by decide +kernel
theorem dX1_fewestOut_47 : decode cX1_fewestOut 47 = .ok (.getfield 12, 3) := by decide +kernel
theorem dX1_fewestOut_50 : decode cX1_fewestOut 50 = .ok (.aload_n 1, 1) := by decide +kernel
theorem dX1_fewestOut_51 : decode cX1_fewestOut 51 = .ok (.invokevirtual 26, 3) := by decide +kernel
theorem dX1_fewestOut_54 : decode cX1_fewestOut 54 = .ok (.aload_n 0, 1) := by decide +kernel
theorem dX1_fewestOut_55 : decode cX1_fewestOut 55 = .ok (.getfield 12, 3) := by decide +kernel
theorem dX1_fewestOut_58 : decode cX1_fewestOut 58 = .ok (.dup, 1) := by decide +kernel
theorem dX1_fewestOut_59 : decode cX1_fewestOut 59 = .ok (.getfield 47, 3) := by decide +kernel
theorem dX1_fewestOut_62 : decode cX1_fewestOut 62 = .ok (.iload 4, 2) := by decide +kernel
theorem dX1_fewestOut_64 : decode cX1_fewestOut 64 = .ok (.ior, 1) := by decide +kernel
theorem dX1_fewestOut_65 : decode cX1_fewestOut 65 = .ok (.putfield 47, 3) := by decide +kernel
theorem dX1_fewestOut_68 : decode cX1_fewestOut 68 = .ok (.aload_n 0, 1) := by decide +kernel
theorem dX1_fewestOut_69 : decode cX1_fewestOut 69 = .ok (.getfield 12, 3) := by decide +kernel
theorem dX1_fewestOut_72 : decode cX1_fewestOut 72 = .ok (.iload_n 2, 1) := by decide +kernel
theorem dX1_fewestOut_73 : decode cX1_fewestOut 73 = .ok (.invokevirtual 30, 3) := by decide +kernel
theorem dX1_fewestOut_76 : decode cX1_fewestOut 76 = .ok (.aload_n 0, 1) := by decide +kernel
theorem dX1_fewestOut_77 : decode cX1_fewestOut 77 = .ok (.getfield 12, 3) := by decide +kernel
theorem dX1_fewestOut_80 : decode cX1_fewestOut 80 = .ok (.aload_n 0, 1) := by decide +kernel
theorem dX1_fewestOut_81 : decode cX1_fewestOut 81 = .ok (.getfield 12, 3) := by decide +kernel
theorem dX1_fewestOut_84 : decode cX1_fewestOut 84 = .ok (.invokevirtual 43, 3) := by decide +kernel
theorem dX1_fewestOut_87 : decode cX1_fewestOut 87 = .ok (.aload_n 0, 1) := by decide +kernel
theorem dX1_fewestOut_88 : decode cX1_fewestOut 88 = .ok (.getfield 12, 3) := by decide +kernel
theorem dX1_fewestOut_91 : decode cX1_fewestOut 91 = .ok (.getfield 47, 3) := by decide +kernel
theorem dX1_fewestOut_94 : decode cX1_fewestOut 94 = .ok (.iconst (-1), 1) := by decide +kernel
theorem dX1_fewestOut_95 : decode cX1_fewestOut 95 = .ok (.ixor, 1) := by decide +kernel
theorem dX1_fewestOut_96 : decode cX1_fewestOut 96 = .ok (.iand, 1) := by decide +kernel
theorem dX1_fewestOut_97 : decode cX1_fewestOut 97 = .ok (.invokevirtual 34, 3) := by decide +kernel
theorem dX1_fewestOut_100 : decode cX1_fewestOut 100 = .ok (.ifCond .eq 8, 3) := by decide +kernel
theorem dX1_fewestOut_103 : decode cX1_fewestOut 103 = .ok (.iload 4, 2) := by decide +kernel
theorem dX1_fewestOut_105 : decode cX1_fewestOut 105 = .ok (.goto 4, 3) := by decide +kernel
theorem dX1_fewestOut_108 : decode cX1_fewestOut 108 = .ok (.iload_n 3, 1) := by decide +kernel
theorem dX1_fewestOut_109 : decode cX1_fewestOut 109 = .ok (.istore_n 3, 1) := by decide +kernel
theorem dX1_fewestOut_110 : decode cX1_fewestOut 110 = .ok (.iinc 4 1, 3) := by decide +kernel
theorem dX1_fewestOut_113 : decode cX1_fewestOut 113 = .ok (.goto (-98), 3) := by decide +kernel
theorem dX1_fewestOut_116 : decode cX1_fewestOut 116 = .ok (.iload_n 3, 1) := by decide +kernel
theorem dX1_fewestOut_117 : decode cX1_fewestOut 117 = .ok (.ireturn, 1) := by decide +kernel
theorem dX1_planChange_0 : decode cX1_planChange 0 = .ok (.aload_n 0, 1) := by decide +kernel
theorem dX1_planChange_1 : decode cX1_planChange 1 = .ok (.iconst (-1), 1) := by decide +kernel
theorem dX1_planChange_2 : decode cX1_planChange 2 = .ok (.putfield 57, 3) := by decide +kernel
theorem dX1_planChange_5 : decode cX1_planChange 5 = .ok (.iconst 0, 1) := by decide +kernel
theorem dX1_planChange_6 : decode cX1_planChange 6 = .ok (.istore_n 3, 1) := by decide +kernel
theorem dX1_planChange_7 : decode cX1_planChange 7 = .ok (.iload_n 3, 1) := by decide +kernel
theorem dX1_planChange_8 : decode cX1_planChange 8 = .ok (.aload_n 1, 1) := by decide +kernel
theorem dX1_planChange_9 : decode cX1_planChange 9 = .ok (.getfield 82, 3) := by decide +kernel
theorem dX1_planChange_12 : decode cX1_planChange 12 = .ok (.if_icmp .ge 94, 3) := by decide +kernel
theorem dX1_planChange_15 : decode cX1_planChange 15 = .ok (.iload_n 3, 1) := by decide +kernel
theorem dX1_planChange_16 : decode cX1_planChange 16 = .ok (.iconst 1, 1) := by decide +kernel
theorem dX1_planChange_17 : decode cX1_planChange 17 = .ok (.iadd, 1) := by decide +kernel
theorem dX1_planChange_18 : decode cX1_planChange 18 = .ok (.istore 4, 2) := by decide +kernel
theorem dX1_planChange_20 : decode cX1_planChange 20 = .ok (.iload 4, 2) := by decide +kernel
theorem dX1_planChange_22 : decode cX1_planChange 22 = .ok (.aload_n 1, 1) := by decide +kernel
theorem dX1_planChange_23 : decode cX1_planChange 23 = .ok (.getfield 82, 3) := by decide +kernel
theorem dX1_planChange_26 : decode cX1_planChange 26 = .ok (.if_icmp .ge 74, 3) := by decide +kernel
theorem dX1_planChange_29 : decode cX1_planChange 29 = .ok (.aload_n 0, 1) := by decide +kernel
theorem dX1_planChange_30 : decode cX1_planChange 30 = .ok (.getfield 12, 3) := by decide +kernel
theorem dX1_planChange_33 : decode cX1_planChange 33 = .ok (.aload_n 1, 1) := by decide +kernel
theorem dX1_planChange_34 : decode cX1_planChange 34 = .ok (.invokevirtual 26, 3) := by decide +kernel
theorem dX1_planChange_37 : decode cX1_planChange 37 = .ok (.aload_n 0, 1) := by decide +kernel
theorem dX1_planChange_38 : decode cX1_planChange 38 = .ok (.getfield 12, 3) := by decide +kernel
theorem dX1_planChange_41 : decode cX1_planChange 41 = .ok (.iload_n 3, 1) := by decide +kernel
theorem dX1_planChange_42 : decode cX1_planChange 42 = .ok (.iload 4, 2) := by decide +kernel
theorem dX1_planChange_44 : decode cX1_planChange 44 = .ok (.invokevirtual 85, 3) := by decide +kernel
theorem dX1_planChange_47 : decode cX1_planChange 47 = .ok (.aload_n 0, 1) := by decide +kernel
theorem dX1_planChange_48 : decode cX1_planChange 48 = .ok (.getfield 12, 3) := by decide +kernel
theorem dX1_planChange_51 : decode cX1_planChange 51 = .ok (.iload_n 2, 1) := by decide +kernel
theorem dX1_planChange_52 : decode cX1_planChange 52 = .ok (.invokevirtual 30, 3) := by decide +kernel
theorem dX1_planChange_55 : decode cX1_planChange 55 = .ok (.aload_n 0, 1) := by decide +kernel
theorem dX1_planChange_56 : decode cX1_planChange 56 = .ok (.getfield 12, 3) := by decide +kernel
theorem dX1_planChange_59 : decode cX1_planChange 59 = .ok (.iconst 2, 1) := by decide +kernel
theorem dX1_planChange_60 : decode cX1_planChange 60 = .ok (.invokevirtual 72, 3) := by decide +kernel
theorem dX1_planChange_63 : decode cX1_planChange 63 = .ok (.invokestatic 60, 3) := by decide +kernel
theorem dX1_planChange_66 : decode cX1_planChange 66 = .ok (.istore 5, 2) := by decide +kernel
theorem dX1_planChange_68 : decode cX1_planChange 68 = .ok (.iload 5, 2) := by decide +kernel
theorem dX1_planChange_70 : decode cX1_planChange 70 = .ok (.aload_n 0, 1) := by decide +kernel
theorem dX1_planChange_71 : decode cX1_planChange 71 = .ok (.getfield 57, 3) := by decide +kernel
theorem dX1_planChange_74 : decode cX1_planChange 74 = .ok (.if_icmp .le 20, 3) := by decide +kernel
theorem dX1_planChange_77 : decode cX1_planChange 77 = .ok (.aload_n 0, 1) := by decide +kernel
theorem dX1_planChange_78 : decode cX1_planChange 78 = .ok (.bipush 10, 2) := by decide +kernel
theorem dX1_planChange_80 : decode cX1_planChange 80 = .ok (.iload_n 3, 1) := by decide +kernel
theorem dX1_planChange_81 : decode cX1_planChange 81 = .ok (.imul, 1) := by decide +kernel
theorem dX1_planChange_82 : decode cX1_planChange 82 = .ok (.iload 4, 2) := by decide +kernel
theorem dX1_planChange_84 : decode cX1_planChange 84 = .ok (.iadd, 1) := by decide +kernel
theorem dX1_planChange_85 : decode cX1_planChange 85 = .ok (.putfield 79, 3) := by decide +kernel
theorem dX1_planChange_88 : decode cX1_planChange 88 = .ok (.aload_n 0, 1) := by decide +kernel
theorem dX1_planChange_89 : decode cX1_planChange 89 = .ok (.iload 5, 2) := by decide +kernel
theorem dX1_planChange_91 : decode cX1_planChange 91 = .ok (.putfield 57, 3) := by decide +kernel
theorem dX1_planChange_94 : decode cX1_planChange 94 = .ok (.iinc 4 1, 3) := by decide +kernel
theorem dX1_planChange_97 : decode cX1_planChange 97 = .ok (.goto (-77), 3) := by decide +kernel
theorem dX1_planChange_100 : decode cX1_planChange 100 = .ok (.iinc 3 1, 3) := by decide +kernel
theorem dX1_planChange_103 : decode cX1_planChange 103 = .ok (.goto (-96), 3) := by decide +kernel
theorem dX1_planChange_106 : decode cX1_planChange 106 = .ok (.return_, 1) := by decide +kernel
theorem dX1_wokenBy_0 : decode cX1_wokenBy 0 = .ok (.aload_n 0, 1) := by decide +kernel
theorem dX1_wokenBy_1 : decode cX1_wokenBy 1 = .ok (.aload_n 1, 1) := by decide +kernel
theorem dX1_wokenBy_2 : decode cX1_wokenBy 2 = .ok (.iconst 1, 1) := by decide +kernel
theorem dX1_wokenBy_3 : decode cX1_wokenBy 3 = .ok (.invokevirtual 88, 3) := by decide +kernel
theorem dX1_wokenBy_6 : decode cX1_wokenBy 6 = .ok (.iconst 2, 1) := by decide +kernel
theorem dX1_wokenBy_7 : decode cX1_wokenBy 7 = .ok (.invokevirtual 72, 3) := by decide +kernel
theorem dX1_wokenBy_10 : decode cX1_wokenBy 10 = .ok (.istore_n 3, 1) := by decide +kernel
theorem dX1_wokenBy_11 : decode cX1_wokenBy 11 = .ok (.aload_n 0, 1) := by decide +kernel
theorem dX1_wokenBy_12 : decode cX1_wokenBy 12 = .ok (.getfield 12, 3) := by decide +kernel
theorem dX1_wokenBy_15 : decode cX1_wokenBy 15 = .ok (.aload_n 1, 1) := by decide +kernel
theorem dX1_wokenBy_16 : decode cX1_wokenBy 16 = .ok (.invokevirtual 26, 3) := by decide +kernel
theorem dX1_wokenBy_19 : decode cX1_wokenBy 19 = .ok (.aload_n 0, 1) := by decide +kernel
theorem dX1_wokenBy_20 : decode cX1_wokenBy 20 = .ok (.getfield 12, 3) := by decide +kernel
theorem dX1_wokenBy_23 : decode cX1_wokenBy 23 = .ok (.iload_n 2, 1) := by decide +kernel
theorem dX1_wokenBy_24 : decode cX1_wokenBy 24 = .ok (.invokevirtual 92, 3) := by decide +kernel
theorem dX1_wokenBy_27 : decode cX1_wokenBy 27 = .ok (.aload_n 0, 1) := by decide +kernel
theorem dX1_wokenBy_28 : decode cX1_wokenBy 28 = .ok (.getfield 12, 3) := by decide +kernel
theorem dX1_wokenBy_31 : decode cX1_wokenBy 31 = .ok (.invokevirtual 38, 3) := by decide +kernel
theorem dX1_wokenBy_34 : decode cX1_wokenBy 34 = .ok (.pop, 1) := by decide +kernel
theorem dX1_wokenBy_35 : decode cX1_wokenBy 35 = .ok (.iload_n 3, 1) := by decide +kernel
theorem dX1_wokenBy_36 : decode cX1_wokenBy 36 = .ok (.aload_n 0, 1) := by decide +kernel
theorem dX1_wokenBy_37 : decode cX1_wokenBy 37 = .ok (.getfield 12, 3) := by decide +kernel
theorem dX1_wokenBy_40 : decode cX1_wokenBy 40 = .ok (.iconst 2, 1) := by decide +kernel
theorem dX1_wokenBy_41 : decode cX1_wokenBy 41 = .ok (.invokevirtual 72, 3) := by decide +kernel
theorem dX1_wokenBy_44 : decode cX1_wokenBy 44 = .ok (.iconst (-1), 1) := by decide +kernel
theorem dX1_wokenBy_45 : decode cX1_wokenBy 45 = .ok (.ixor, 1) := by decide +kernel
theorem dX1_wokenBy_46 : decode cX1_wokenBy 46 = .ok (.iand, 1) := by decide +kernel
theorem dX1_wokenBy_47 : decode cX1_wokenBy 47 = .ok (.iconst 1, 1) := by decide +kernel
theorem dX1_wokenBy_48 : decode cX1_wokenBy 48 = .ok (.iload_n 2, 1) := by decide +kernel
theorem dX1_wokenBy_49 : decode cX1_wokenBy 49 = .ok (.ishl, 1) := by decide +kernel
theorem dX1_wokenBy_50 : decode cX1_wokenBy 50 = .ok (.iconst (-1), 1) := by decide +kernel
theorem dX1_wokenBy_51 : decode cX1_wokenBy 51 = .ok (.ixor, 1) := by decide +kernel
theorem dX1_wokenBy_52 : decode cX1_wokenBy 52 = .ok (.iand, 1) := by decide +kernel
theorem dX1_wokenBy_53 : decode cX1_wokenBy 53 = .ok (.ireturn, 1) := by decide +kernel
theorem dX1_tell_0 : decode cX1_tell 0 = .ok (.aload_n 0, 1) := by decide +kernel
theorem dX1_tell_1 : decode cX1_tell 1 = .ok (.iconst 0, 1) := by decide +kernel
theorem dX1_tell_2 : decode cX1_tell 2 = .ok (.putfield 95, 3) := by decide +kernel
theorem dX1_tell_5 : decode cX1_tell 5 = .ok (.aload_n 1, 1) := by decide +kernel
theorem dX1_tell_6 : decode cX1_tell 6 = .ok (.iload_n 2, 1) := by decide +kernel
theorem dX1_tell_7 : decode cX1_tell 7 = .ok (.iload_n 3, 1) := by decide +kernel
theorem dX1_tell_8 : decode cX1_tell 8 = .ok (.invokevirtual 98, 3) := by decide +kernel
theorem dX1_tell_11 : decode cX1_tell 11 = .ok (.ifCond .ne 9, 3) := by decide +kernel
theorem dX1_tell_14 : decode cX1_tell 14 = .ok (.iload_n 3, 1) := by decide +kernel
theorem dX1_tell_15 : decode cX1_tell 15 = .ok (.bipush 12, 2) := by decide +kernel
theorem dX1_tell_17 : decode cX1_tell 17 = .ok (.if_icmp .le 4, 3) := by decide +kernel
theorem dX1_tell_20 : decode cX1_tell 20 = .ok (.return_, 1) := by decide +kernel
theorem dX1_tell_21 : decode cX1_tell 21 = .ok (.aload_n 1, 1) := by decide +kernel
theorem dX1_tell_22 : decode cX1_tell 22 = .ok (.getfield 104, 3) := by decide +kernel
theorem dX1_tell_25 : decode cX1_tell 25 = .ok (.iload_n 2, 1) := by decide +kernel
theorem dX1_tell_26 : decode cX1_tell 26 = .ok (.aload_n 0, 1) := by decide +kernel
theorem dX1_tell_27 : decode cX1_tell 27 = .ok (.getfield 22, 3) := by decide +kernel
theorem dX1_tell_30 : decode cX1_tell 30 = .ok (.iconst 0, 1) := by decide +kernel
theorem dX1_tell_31 : decode cX1_tell 31 = .ok (.iload_n 3, 1) := by decide +kernel
theorem dX1_tell_32 : decode cX1_tell 32 = .ok (.invokestatic 107, 3) := by decide +kernel
theorem dX1_tell_35 : decode cX1_tell 35 = .ok (.aload_n 0, 1) := by decide +kernel
theorem dX1_tell_36 : decode cX1_tell 36 = .ok (.iload_n 3, 1) := by decide +kernel
theorem dX1_tell_37 : decode cX1_tell 37 = .ok (.putfield 95, 3) := by decide +kernel
theorem dX1_tell_40 : decode cX1_tell 40 = .ok (.return_, 1) := by decide +kernel
theorem dX1_goesAsTold_0 : decode cX1_goesAsTold 0 = .ok (.iconst 0, 1) := by decide +kernel
theorem dX1_goesAsTold_1 : decode cX1_goesAsTold 1 = .ok (.istore_n 1, 1) := by decide +kernel
theorem dX1_goesAsTold_2 : decode cX1_goesAsTold 2 = .ok (.iload_n 1, 1) := by decide +kernel
theorem dX1_goesAsTold_3 : decode cX1_goesAsTold 3 = .ok (.aload_n 0, 1) := by decide +kernel
theorem dX1_goesAsTold_4 : decode cX1_goesAsTold 4 = .ok (.getfield 95, 3) := by decide +kernel
theorem dX1_goesAsTold_7 : decode cX1_goesAsTold 7 = .ok (.if_icmp .ge 36, 3) := by decide +kernel
theorem dX1_goesAsTold_10 : decode cX1_goesAsTold 10 = .ok (.aload_n 0, 1) := by decide +kernel
theorem dX1_goesAsTold_11 : decode cX1_goesAsTold 11 = .ok (.getfield 12, 3) := by decide +kernel
theorem dX1_goesAsTold_14 : decode cX1_goesAsTold 14 = .ok (.invokevirtual 38, 3) := by decide +kernel
theorem dX1_goesAsTold_17 : decode cX1_goesAsTold 17 = .ok (.pop, 1) := by decide +kernel
theorem dX1_goesAsTold_18 : decode cX1_goesAsTold 18 = .ok (.aload_n 0, 1) := by decide +kernel
theorem dX1_goesAsTold_19 : decode cX1_goesAsTold 19 = .ok (.getfield 12, 3) := by decide +kernel
theorem dX1_goesAsTold_22 : decode cX1_goesAsTold 22 = .ok (.iconst 2, 1) := by decide +kernel
theorem dX1_goesAsTold_23 : decode cX1_goesAsTold 23 = .ok (.invokevirtual 72, 3) := by decide +kernel
theorem dX1_goesAsTold_26 : decode cX1_goesAsTold 26 = .ok (.aload_n 0, 1) := by decide +kernel
theorem dX1_goesAsTold_27 : decode cX1_goesAsTold 27 = .ok (.getfield 22, 3) := by decide +kernel
theorem dX1_goesAsTold_30 : decode cX1_goesAsTold 30 = .ok (.iload_n 1, 1) := by decide +kernel
theorem dX1_goesAsTold_31 : decode cX1_goesAsTold 31 = .ok (.iaload, 1) := by decide +kernel
theorem dX1_goesAsTold_32 : decode cX1_goesAsTold 32 = .ok (.if_icmp .eq 5, 3) := by decide +kernel
theorem dX1_goesAsTold_35 : decode cX1_goesAsTold 35 = .ok (.iconst 0, 1) := by decide +kernel
theorem dX1_goesAsTold_36 : decode cX1_goesAsTold 36 = .ok (.ireturn, 1) := by decide +kernel
theorem dX1_goesAsTold_37 : decode cX1_goesAsTold 37 = .ok (.iinc 1 1, 3) := by decide +kernel
theorem dX1_goesAsTold_40 : decode cX1_goesAsTold 40 = .ok (.goto (-38), 3) := by decide +kernel
theorem dX1_goesAsTold_43 : decode cX1_goesAsTold 43 = .ok (.iconst 1, 1) := by decide +kernel
theorem dX1_goesAsTold_44 : decode cX1_goesAsTold 44 = .ok (.ireturn, 1) := by decide +kernel
theorem dX1_fittingTraits_0 : decode cX1_fittingTraits 0 = .ok (.iload_n 3, 1) := by decide +kernel
theorem dX1_fittingTraits_1 : decode cX1_fittingTraits 1 = .ok (.ifCond .eq 8, 3) := by decide +kernel
theorem dX1_fittingTraits_4 : decode cX1_fittingTraits 4 = .ok (.iload_n 3, 1) := by decide +kernel
theorem dX1_fittingTraits_5 : decode cX1_fittingTraits 5 = .ok (.iconst 1, 1) := by decide +kernel
theorem dX1_fittingTraits_6 : decode cX1_fittingTraits 6 = .ok (.if_icmp .ne 7, 3) := by decide +kernel
theorem dX1_fittingTraits_9 : decode cX1_fittingTraits 9 = .ok (.iconst 1, 1) := by decide +kernel
theorem dX1_fittingTraits_10 : decode cX1_fittingTraits 10 = .ok (.goto 4, 3) := by decide +kernel
theorem dX1_fittingTraits_13 : decode cX1_fittingTraits 13 = .ok (.iconst 0, 1) := by decide +kernel
theorem dX1_fittingTraits_14 : decode cX1_fittingTraits 14 = .ok (.istore 4, 2) := by decide +kernel
theorem dX1_fittingTraits_16 : decode cX1_fittingTraits 16 = .ok (.iload_n 3, 1) := by decide +kernel
theorem dX1_fittingTraits_17 : decode cX1_fittingTraits 17 = .ok (.ifCond .ne 7, 3) := by decide +kernel
theorem dX1_fittingTraits_20 : decode cX1_fittingTraits 20 = .ok (.iconst 5, 1) := by decide +kernel
theorem dX1_fittingTraits_21 : decode cX1_fittingTraits 21 = .ok (.goto 5, 3) := by decide +kernel
theorem dX1_fittingTraits_24 : decode cX1_fittingTraits 24 = .ok (.bipush 9, 2) := by decide +kernel
theorem dX1_fittingTraits_26 : decode cX1_fittingTraits 26 = .ok (.istore 5, 2) := by decide +kernel
theorem dX1_fittingTraits_28 : decode cX1_fittingTraits 28 = .ok (.iconst 0, 1) := by decide +kernel
theorem dX1_fittingTraits_29 : decode cX1_fittingTraits 29 = .ok (.istore 6, 2) := by decide +kernel
theorem dX1_fittingTraits_31 : decode cX1_fittingTraits 31 = .ok (.iload 4, 2) := by decide +kernel
theorem dX1_fittingTraits_33 : decode cX1_fittingTraits 33 = .ok (.istore 7, 2) := by decide +kernel
theorem dX1_fittingTraits_35 : decode cX1_fittingTraits 35 = .ok (.iload 7, 2) := by decide +kernel
theorem dX1_fittingTraits_37 : decode cX1_fittingTraits 37 = .ok (.iload 5, 2) := by decide +kernel
theorem dX1_fittingTraits_39 : decode cX1_fittingTraits 39 = .ok (.if_icmp .gt 45, 3) := by decide +kernel
theorem dX1_fittingTraits_42 : decode cX1_fittingTraits 42 = .ok (.aload_n 0, 1) := by decide +kernel
theorem dX1_fittingTraits_43 : decode cX1_fittingTraits 43 = .ok (.getfield 12, 3) := by decide +kernel
theorem dX1_fittingTraits_46 : decode cX1_fittingTraits 46 = .ok (.aload_n 1, 1) := by decide +kernel
theorem dX1_fittingTraits_47 : decode cX1_fittingTraits 47 = .ok (.invokevirtual 26, 3) := by decide +kernel
theorem dX1_fittingTraits_50 : decode cX1_fittingTraits 50 = .ok (.aload_n 0, 1) := by decide +kernel
theorem dX1_fittingTraits_51 : decode cX1_fittingTraits 51 = .ok (.getfield 12, 3) := by decide +kernel
theorem dX1_fittingTraits_54 : decode cX1_fittingTraits 54 = .ok (.iload_n 3, 1) := by decide +kernel
theorem dX1_fittingTraits_55 : decode cX1_fittingTraits 55 = .ok (.invokestatic 113, 3) := by decide +kernel
theorem dX1_fittingTraits_58 : decode cX1_fittingTraits 58 = .ok (.iload_n 2, 1) := by decide +kernel
theorem dX1_fittingTraits_59 : decode cX1_fittingTraits 59 = .ok (.iload 7, 2) := by decide +kernel
theorem dX1_fittingTraits_61 : decode cX1_fittingTraits 61 = .ok (.iastore, 1) := by decide +kernel
theorem dX1_fittingTraits_62 : decode cX1_fittingTraits 62 = .ok (.aload_n 0, 1) := by decide +kernel
theorem dX1_fittingTraits_63 : decode cX1_fittingTraits 63 = .ok (.invokevirtual 117, 3) := by decide +kernel
theorem dX1_fittingTraits_66 : decode cX1_fittingTraits 66 = .ok (.ifCond .eq 12, 3) := by decide +kernel
theorem dX1_fittingTraits_69 : decode cX1_fittingTraits 69 = .ok (.iload 6, 2) := by decide +kernel
theorem dX1_fittingTraits_71 : decode cX1_fittingTraits 71 = .ok (.iconst 1, 1) := by decide +kernel
theorem dX1_fittingTraits_72 : decode cX1_fittingTraits 72 = .ok (.iload 7, 2) := by decide +kernel
theorem dX1_fittingTraits_74 : decode cX1_fittingTraits 74 = .ok (.ishl, 1) := by decide +kernel
theorem dX1_fittingTraits_75 : decode cX1_fittingTraits 75 = .ok (.ior, 1) := by decide +kernel
theorem dX1_fittingTraits_76 : decode cX1_fittingTraits 76 = .ok (.istore 6, 2) := by decide +kernel
theorem dX1_fittingTraits_78 : decode cX1_fittingTraits 78 = .ok (.iinc 7 1, 3) := by decide +kernel
theorem dX1_fittingTraits_81 : decode cX1_fittingTraits 81 = .ok (.goto (-46), 3) := by decide +kernel
theorem dX1_fittingTraits_84 : decode cX1_fittingTraits 84 = .ok (.iload 6, 2) := by decide +kernel
theorem dX1_fittingTraits_86 : decode cX1_fittingTraits 86 = .ok (.ireturn, 1) := by decide +kernel
theorem dX1_traitsOf_0 : decode cX1_traitsOf 0 = .ok (.iload_n 1, 1) := by decide +kernel
theorem dX1_traitsOf_1 : decode cX1_traitsOf 1 = .ok (.tableswitch 42 0 2 #[27, 32, 37], 27) := by decide +kernel
theorem dX1_traitsOf_28 : decode cX1_traitsOf 28 = .ok (.aload_n 0, 1) := by decide +kernel
theorem dX1_traitsOf_29 : decode cX1_traitsOf 29 = .ok (.getfield 120, 3) := by decide +kernel
theorem dX1_traitsOf_32 : decode cX1_traitsOf 32 = .ok (.areturn, 1) := by decide +kernel
theorem dX1_traitsOf_33 : decode cX1_traitsOf 33 = .ok (.aload_n 0, 1) := by decide +kernel
theorem dX1_traitsOf_34 : decode cX1_traitsOf 34 = .ok (.getfield 123, 3) := by decide +kernel
theorem dX1_traitsOf_37 : decode cX1_traitsOf 37 = .ok (.areturn, 1) := by decide +kernel
theorem dX1_traitsOf_38 : decode cX1_traitsOf 38 = .ok (.aload_n 0, 1) := by decide +kernel
theorem dX1_traitsOf_39 : decode cX1_traitsOf 39 = .ok (.getfield 126, 3) := by decide +kernel
theorem dX1_traitsOf_42 : decode cX1_traitsOf 42 = .ok (.areturn, 1) := by decide +kernel
theorem dX1_traitsOf_43 : decode cX1_traitsOf 43 = .ok (.aload_n 0, 1) := by decide +kernel
theorem dX1_traitsOf_44 : decode cX1_traitsOf 44 = .ok (.getfield 129, 3) := by decide +kernel
theorem dX1_traitsOf_47 : decode cX1_traitsOf 47 = .ok (.areturn, 1) := by decide +kernel
theorem dX1_fittingHands_0 : decode cX1_fittingHands 0 = .ok (.iconst 0, 1) := by decide +kernel
theorem dX1_fittingHands_1 : decode cX1_fittingHands 1 = .ok (.istore_n 2, 1) := by decide +kernel
theorem dX1_fittingHands_2 : decode cX1_fittingHands 2 = .ok (.iconst 0, 1) := by decide +kernel
theorem dX1_fittingHands_3 : decode cX1_fittingHands 3 = .ok (.istore_n 3, 1) := by decide +kernel
theorem dX1_fittingHands_4 : decode cX1_fittingHands 4 = .ok (.iload_n 3, 1) := by decide +kernel
theorem dX1_fittingHands_5 : decode cX1_fittingHands 5 = .ok (.aload_n 1, 1) := by decide +kernel
theorem dX1_fittingHands_6 : decode cX1_fittingHands 6 = .ok (.getfield 82, 3) := by decide +kernel
theorem dX1_fittingHands_9 : decode cX1_fittingHands 9 = .ok (.if_icmp .ge 45, 3) := by decide +kernel
theorem dX1_fittingHands_12 : decode cX1_fittingHands 12 = .ok (.aload_n 0, 1) := by decide +kernel
theorem dX1_fittingHands_13 : decode cX1_fittingHands 13 = .ok (.getfield 12, 3) := by decide +kernel
theorem dX1_fittingHands_16 : decode cX1_fittingHands 16 = .ok (.aload_n 1, 1) := by decide +kernel
theorem dX1_fittingHands_17 : decode cX1_fittingHands 17 = .ok (.invokevirtual 26, 3) := by decide +kernel
theorem dX1_fittingHands_20 : decode cX1_fittingHands 20 = .ok (.aload_n 0, 1) := by decide +kernel
theorem dX1_fittingHands_21 : decode cX1_fittingHands 21 = .ok (.getfield 12, 3) := by decide +kernel
theorem dX1_fittingHands_24 : decode cX1_fittingHands 24 = .ok (.dup, 1) := by decide +kernel
theorem dX1_fittingHands_25 : decode cX1_fittingHands 25 = .ok (.getfield 69, 3) := by decide +kernel
theorem dX1_fittingHands_28 : decode cX1_fittingHands 28 = .ok (.iconst 1, 1) := by decide +kernel
theorem dX1_fittingHands_29 : decode cX1_fittingHands 29 = .ok (.iload_n 3, 1) := by decide +kernel
theorem dX1_fittingHands_30 : decode cX1_fittingHands 30 = .ok (.ishl, 1) := by decide +kernel
theorem dX1_fittingHands_31 : decode cX1_fittingHands 31 = .ok (.ior, 1) := by decide +kernel
theorem dX1_fittingHands_32 : decode cX1_fittingHands 32 = .ok (.putfield 69, 3) := by decide +kernel
theorem dX1_fittingHands_35 : decode cX1_fittingHands 35 = .ok (.aload_n 0, 1) := by decide +kernel
theorem dX1_fittingHands_36 : decode cX1_fittingHands 36 = .ok (.invokevirtual 117, 3) := by decide +kernel
theorem dX1_fittingHands_39 : decode cX1_fittingHands 39 = .ok (.ifCond .eq 9, 3) := by decide +kernel
theorem dX1_fittingHands_42 : decode cX1_fittingHands 42 = .ok (.iload_n 2, 1) := by decide +kernel
theorem dX1_fittingHands_43 : decode cX1_fittingHands 43 = .ok (.iconst 1, 1) := by decide +kernel
theorem dX1_fittingHands_44 : decode cX1_fittingHands 44 = .ok (.iload_n 3, 1) := by decide +kernel
theorem dX1_fittingHands_45 : decode cX1_fittingHands 45 = .ok (.ishl, 1) := by decide +kernel
theorem dX1_fittingHands_46 : decode cX1_fittingHands 46 = .ok (.ior, 1) := by decide +kernel
theorem dX1_fittingHands_47 : decode cX1_fittingHands 47 = .ok (.istore_n 2, 1) := by decide +kernel
theorem dX1_fittingHands_48 : decode cX1_fittingHands 48 = .ok (.iinc 3 1, 3) := by decide +kernel
theorem dX1_fittingHands_51 : decode cX1_fittingHands 51 = .ok (.goto (-47), 3) := by decide +kernel
theorem dX1_fittingHands_54 : decode cX1_fittingHands 54 = .ok (.aload_n 0, 1) := by decide +kernel
theorem dX1_fittingHands_55 : decode cX1_fittingHands 55 = .ok (.getfield 12, 3) := by decide +kernel
theorem dX1_fittingHands_58 : decode cX1_fittingHands 58 = .ok (.aload_n 1, 1) := by decide +kernel
theorem dX1_fittingHands_59 : decode cX1_fittingHands 59 = .ok (.invokevirtual 26, 3) := by decide +kernel
theorem dX1_fittingHands_62 : decode cX1_fittingHands 62 = .ok (.aload_n 0, 1) := by decide +kernel
theorem dX1_fittingHands_63 : decode cX1_fittingHands 63 = .ok (.invokevirtual 117, 3) := by decide +kernel
theorem dX1_fittingHands_66 : decode cX1_fittingHands 66 = .ok (.ifCond .eq 11, 3) := by decide +kernel
theorem dX1_fittingHands_69 : decode cX1_fittingHands 69 = .ok (.iload_n 2, 1) := by decide +kernel
theorem dX1_fittingHands_70 : decode cX1_fittingHands 70 = .ok (.sipush 128, 3) := by decide +kernel
theorem dX1_fittingHands_73 : decode cX1_fittingHands 73 = .ok (.ior, 1) := by decide +kernel
theorem dX1_fittingHands_74 : decode cX1_fittingHands 74 = .ok (.goto 4, 3) := by decide +kernel
theorem dX1_fittingHands_77 : decode cX1_fittingHands 77 = .ok (.iload_n 2, 1) := by decide +kernel
theorem dX1_fittingHands_78 : decode cX1_fittingHands 78 = .ok (.ireturn, 1) := by decide +kernel
theorem dX1_countCases_0 : decode cX1_countCases 0 = .ok (.aload_n 0, 1) := by decide +kernel
theorem dX1_countCases_1 : decode cX1_countCases 1 = .ok (.getfield 18, 3) := by decide +kernel
theorem dX1_countCases_4 : decode cX1_countCases 4 = .ok (.iconst 0, 1) := by decide +kernel
theorem dX1_countCases_5 : decode cX1_countCases 5 = .ok (.aaload, 1) := by decide +kernel
theorem dX1_countCases_6 : decode cX1_countCases 6 = .ok (.aload_n 1, 1) := by decide +kernel
theorem dX1_countCases_7 : decode cX1_countCases 7 = .ok (.invokevirtual 26, 3) := by decide +kernel
theorem dX1_countCases_10 : decode cX1_countCases 10 = .ok (.aload_n 0, 1) := by decide +kernel
theorem dX1_countCases_11 : decode cX1_countCases 11 = .ok (.aload_n 0, 1) := by decide +kernel
theorem dX1_countCases_12 : decode cX1_countCases 12 = .ok (.iconst 0, 1) := by decide +kernel
theorem dX1_countCases_13 : decode cX1_countCases 13 = .ok (.iload_n 2, 1) := by decide +kernel
theorem dX1_countCases_14 : decode cX1_countCases 14 = .ok (.iload_n 3, 1) := by decide +kernel
theorem dX1_countCases_15 : decode cX1_countCases 15 = .ok (.iload 4, 2) := by decide +kernel
theorem dX1_countCases_17 : decode cX1_countCases 17 = .ok (.invokevirtual 132, 3) := by decide +kernel
theorem dX1_countCases_20 : decode cX1_countCases 20 = .ok (.putfield 136, 3) := by decide +kernel
theorem dX1_countCases_23 : decode cX1_countCases 23 = .ok (.aload_n 0, 1) := by decide +kernel
theorem dX1_countCases_24 : decode cX1_countCases 24 = .ok (.lconst 1, 1) := by decide +kernel
theorem dX1_countCases_25 : decode cX1_countCases 25 = .ok (.putfield 140, 3) := by decide +kernel
theorem dX1_countCases_28 : decode cX1_countCases 28 = .ok (.iconst 0, 1) := by decide +kernel
theorem dX1_countCases_29 : decode cX1_countCases 29 = .ok (.istore 5, 2) := by decide +kernel
theorem dX1_countCases_31 : decode cX1_countCases 31 = .ok (.iload 5, 2) := by decide +kernel
theorem dX1_countCases_33 : decode cX1_countCases 33 = .ok (.iload_n 3, 1) := by decide +kernel
theorem dX1_countCases_34 : decode cX1_countCases 34 = .ok (.if_icmp .ge 21, 3) := by decide +kernel
theorem dX1_countCases_37 : decode cX1_countCases 37 = .ok (.aload_n 0, 1) := by decide +kernel
theorem dX1_countCases_38 : decode cX1_countCases 38 = .ok (.dup, 1) := by decide +kernel
theorem dX1_countCases_39 : decode cX1_countCases 39 = .ok (.getfield 140, 3) := by decide +kernel
theorem dX1_countCases_42 : decode cX1_countCases 42 = .ok (.ldc2_w 143, 3) := by decide +kernel
theorem dX1_countCases_45 : decode cX1_countCases 45 = .ok (.lmul, 1) := by decide +kernel
theorem dX1_countCases_46 : decode cX1_countCases 46 = .ok (.putfield 140, 3) := by decide +kernel
theorem dX1_countCases_49 : decode cX1_countCases 49 = .ok (.iinc 5 1, 3) := by decide +kernel
theorem dX1_countCases_52 : decode cX1_countCases 52 = .ok (.goto (-21), 3) := by decide +kernel
theorem dX1_countCases_55 : decode cX1_countCases 55 = .ok (.aload_n 0, 1) := by decide +kernel
theorem dX1_countCases_56 : decode cX1_countCases 56 = .ok (.iload_n 3, 1) := by decide +kernel
theorem dX1_countCases_57 : decode cX1_countCases 57 = .ok (.invokevirtual 145, 3) := by decide +kernel
theorem dX1_countCases_60 : decode cX1_countCases 60 = .ok (.return_, 1) := by decide +kernel
theorem dX1_casesAsleep_0 : decode cX1_casesAsleep 0 = .ok (.aload_n 0, 1) := by decide +kernel
theorem dX1_casesAsleep_1 : decode cX1_casesAsleep 1 = .ok (.getfield 18, 3) := by decide +kernel
theorem dX1_casesAsleep_4 : decode cX1_casesAsleep 4 = .ok (.iload_n 1, 1) := by decide +kernel
theorem dX1_casesAsleep_5 : decode cX1_casesAsleep 5 = .ok (.aaload, 1) := by decide +kernel
theorem dX1_casesAsleep_6 : decode cX1_casesAsleep 6 = .ok (.astore 5, 2) := by decide +kernel
theorem dX1_casesAsleep_8 : decode cX1_casesAsleep 8 = .ok (.iload_n 1, 1) := by decide +kernel
theorem dX1_casesAsleep_9 : decode cX1_casesAsleep 9 = .ok (.iload_n 3, 1) := by decide +kernel
theorem dX1_casesAsleep_10 : decode cX1_casesAsleep 10 = .ok (.if_icmp .ge 9, 3) := by decide +kernel
theorem dX1_casesAsleep_13 : decode cX1_casesAsleep 13 = .ok (.iload_n 1, 1) := by decide +kernel
theorem dX1_casesAsleep_14 : decode cX1_casesAsleep 14 = .ok (.bipush 8, 2) := by decide +kernel
theorem dX1_casesAsleep_16 : decode cX1_casesAsleep 16 = .ok (.if_icmp .lt 30, 3) := by decide +kernel
theorem dX1_casesAsleep_19 : decode cX1_casesAsleep 19 = .ok (.aload 5, 2) := by decide +kernel
theorem dX1_casesAsleep_21 : decode cX1_casesAsleep 21 = .ok (.aload 5, 2) := by decide +kernel
theorem dX1_casesAsleep_23 : decode cX1_casesAsleep 23 = .ok (.invokevirtual 43, 3) := by decide +kernel
theorem dX1_casesAsleep_26 : decode cX1_casesAsleep 26 = .ok (.aload 5, 2) := by decide +kernel
theorem dX1_casesAsleep_28 : decode cX1_casesAsleep 28 = .ok (.getfield 47, 3) := by decide +kernel
theorem dX1_casesAsleep_31 : decode cX1_casesAsleep 31 = .ok (.iconst (-1), 1) := by decide +kernel
theorem dX1_casesAsleep_32 : decode cX1_casesAsleep 32 = .ok (.ixor, 1) := by decide +kernel
theorem dX1_casesAsleep_33 : decode cX1_casesAsleep 33 = .ok (.iand, 1) := by decide +kernel
theorem dX1_casesAsleep_34 : decode cX1_casesAsleep 34 = .ok (.invokevirtual 34, 3) := by decide +kernel
theorem dX1_casesAsleep_37 : decode cX1_casesAsleep 37 = .ok (.ifCond .eq 7, 3) := by decide +kernel
theorem dX1_casesAsleep_40 : decode cX1_casesAsleep 40 = .ok (.lconst 1, 1) := by decide +kernel
theorem dX1_casesAsleep_41 : decode cX1_casesAsleep 41 = .ok (.goto 4, 3) := by decide +kernel
theorem dX1_casesAsleep_44 : decode cX1_casesAsleep 44 = .ok (.lconst 0, 1) := by decide +kernel
theorem dX1_casesAsleep_45 : decode cX1_casesAsleep 45 = .ok (.lreturn, 1) := by decide +kernel
theorem dX1_casesAsleep_46 : decode cX1_casesAsleep 46 = .ok (.aload_n 0, 1) := by decide +kernel
theorem dX1_casesAsleep_47 : decode cX1_casesAsleep 47 = .ok (.getfield 18, 3) := by decide +kernel
theorem dX1_casesAsleep_50 : decode cX1_casesAsleep 50 = .ok (.iload_n 1, 1) := by decide +kernel
theorem dX1_casesAsleep_51 : decode cX1_casesAsleep 51 = .ok (.iconst 1, 1) := by decide +kernel
theorem dX1_casesAsleep_52 : decode cX1_casesAsleep 52 = .ok (.iadd, 1) := by decide +kernel
theorem dX1_casesAsleep_53 : decode cX1_casesAsleep 53 = .ok (.aaload, 1) := by decide +kernel
theorem dX1_casesAsleep_54 : decode cX1_casesAsleep 54 = .ok (.astore 6, 2) := by decide +kernel
theorem dX1_casesAsleep_56 : decode cX1_casesAsleep 56 = .ok (.aload 6, 2) := by decide +kernel
theorem dX1_casesAsleep_58 : decode cX1_casesAsleep 58 = .ok (.aload 5, 2) := by decide +kernel
theorem dX1_casesAsleep_60 : decode cX1_casesAsleep 60 = .ok (.invokevirtual 26, 3) := by decide +kernel
theorem dX1_casesAsleep_63 : decode cX1_casesAsleep 63 = .ok (.aload 6, 2) := by decide +kernel
theorem dX1_casesAsleep_65 : decode cX1_casesAsleep 65 = .ok (.iload_n 2, 1) := by decide +kernel
theorem dX1_casesAsleep_66 : decode cX1_casesAsleep 66 = .ok (.invokevirtual 148, 3) := by decide +kernel
theorem dX1_casesAsleep_69 : decode cX1_casesAsleep 69 = .ok (.istore 7, 2) := by decide +kernel
theorem dX1_casesAsleep_71 : decode cX1_casesAsleep 71 = .ok (.aload 6, 2) := by decide +kernel
theorem dX1_casesAsleep_73 : decode cX1_casesAsleep 73 = .ok (.invokevirtual 38, 3) := by decide +kernel
theorem dX1_casesAsleep_76 : decode cX1_casesAsleep 76 = .ok (.pop, 1) := by decide +kernel
theorem dX1_casesAsleep_77 : decode cX1_casesAsleep 77 = .ok (.iload 7, 2) := by decide +kernel
theorem dX1_casesAsleep_79 : decode cX1_casesAsleep 79 = .ok (.ifCond .ne 8, 3) := by decide +kernel
theorem dX1_casesAsleep_82 : decode cX1_casesAsleep 82 = .ok (.bipush 10, 2) := by decide +kernel
theorem dX1_casesAsleep_84 : decode cX1_casesAsleep 84 = .ok (.goto 5, 3) := by decide +kernel
theorem dX1_casesAsleep_87 : decode cX1_casesAsleep 87 = .ok (.iload 4, 2) := by decide +kernel
theorem dX1_casesAsleep_89 : decode cX1_casesAsleep 89 = .ok (.istore 8, 2) := by decide +kernel
theorem dX1_casesAsleep_91 : decode cX1_casesAsleep 91 = .ok (.iload 8, 2) := by decide +kernel
theorem dX1_casesAsleep_93 : decode cX1_casesAsleep 93 = .ok (.ifCond .ne 7, 3) := by decide +kernel
theorem dX1_casesAsleep_96 : decode cX1_casesAsleep 96 = .ok (.lconst 0, 1) := by decide +kernel
theorem dX1_casesAsleep_97 : decode cX1_casesAsleep 97 = .ok (.goto 18, 3) := by decide +kernel
theorem dX1_casesAsleep_100 : decode cX1_casesAsleep 100 = .ok (.iload 8, 2) := by decide +kernel
theorem dX1_casesAsleep_102 : decode cX1_casesAsleep 102 = .ok (.i2l, 1) := by decide +kernel
theorem dX1_casesAsleep_103 : decode cX1_casesAsleep 103 = .ok (.aload_n 0, 1) := by decide +kernel
theorem dX1_casesAsleep_104 : decode cX1_casesAsleep 104 = .ok (.iload_n 1, 1) := by decide +kernel
theorem dX1_casesAsleep_105 : decode cX1_casesAsleep 105 = .ok (.iconst 1, 1) := by decide +kernel
theorem dX1_casesAsleep_106 : decode cX1_casesAsleep 106 = .ok (.iadd, 1) := by decide +kernel
theorem dX1_casesAsleep_107 : decode cX1_casesAsleep 107 = .ok (.iload_n 2, 1) := by decide +kernel
theorem dX1_casesAsleep_108 : decode cX1_casesAsleep 108 = .ok (.iload_n 3, 1) := by decide +kernel
theorem dX1_casesAsleep_109 : decode cX1_casesAsleep 109 = .ok (.iload 4, 2) := by decide +kernel
theorem dX1_casesAsleep_111 : decode cX1_casesAsleep 111 = .ok (.invokevirtual 132, 3) := by decide +kernel
theorem dX1_casesAsleep_114 : decode cX1_casesAsleep 114 = .ok (.lmul, 1) := by decide +kernel
theorem dX1_casesAsleep_115 : decode cX1_casesAsleep 115 = .ok (.lstore 9, 2) := by decide +kernel
theorem dX1_casesAsleep_117 : decode cX1_casesAsleep 117 = .ok (.iload 8, 2) := by decide +kernel
theorem dX1_casesAsleep_119 : decode cX1_casesAsleep 119 = .ok (.bipush 10, 2) := by decide +kernel
theorem dX1_casesAsleep_121 : decode cX1_casesAsleep 121 = .ok (.if_icmp .ge 39, 3) := by decide +kernel
theorem dX1_casesAsleep_124 : decode cX1_casesAsleep 124 = .ok (.aload 6, 2) := by decide +kernel
theorem dX1_casesAsleep_126 : decode cX1_casesAsleep 126 = .ok (.aload 5, 2) := by decide +kernel
theorem dX1_casesAsleep_128 : decode cX1_casesAsleep 128 = .ok (.invokevirtual 26, 3) := by decide +kernel
theorem dX1_casesAsleep_131 : decode cX1_casesAsleep 131 = .ok (.aload 6, 2) := by decide +kernel
theorem dX1_casesAsleep_133 : decode cX1_casesAsleep 133 = .ok (.invokevirtual 38, 3) := by decide +kernel
theorem dX1_casesAsleep_136 : decode cX1_casesAsleep 136 = .ok (.pop, 1) := by decide +kernel
theorem dX1_casesAsleep_137 : decode cX1_casesAsleep 137 = .ok (.lload 9, 2) := by decide +kernel
theorem dX1_casesAsleep_139 : decode cX1_casesAsleep 139 = .ok (.bipush 10, 2) := by decide +kernel
theorem dX1_casesAsleep_141 : decode cX1_casesAsleep 141 = .ok (.iload 8, 2) := by decide +kernel
theorem dX1_casesAsleep_143 : decode cX1_casesAsleep 143 = .ok (.isub, 1) := by decide +kernel
theorem dX1_casesAsleep_144 : decode cX1_casesAsleep 144 = .ok (.i2l, 1) := by decide +kernel
theorem dX1_casesAsleep_145 : decode cX1_casesAsleep 145 = .ok (.aload_n 0, 1) := by decide +kernel
theorem dX1_casesAsleep_146 : decode cX1_casesAsleep 146 = .ok (.iload_n 1, 1) := by decide +kernel
theorem dX1_casesAsleep_147 : decode cX1_casesAsleep 147 = .ok (.iconst 1, 1) := by decide +kernel
theorem dX1_casesAsleep_148 : decode cX1_casesAsleep 148 = .ok (.iadd, 1) := by decide +kernel
theorem dX1_casesAsleep_149 : decode cX1_casesAsleep 149 = .ok (.iload_n 2, 1) := by decide +kernel
theorem dX1_casesAsleep_150 : decode cX1_casesAsleep 150 = .ok (.iload_n 3, 1) := by decide +kernel
theorem dX1_casesAsleep_151 : decode cX1_casesAsleep 151 = .ok (.iload 4, 2) := by decide +kernel
theorem dX1_casesAsleep_153 : decode cX1_casesAsleep 153 = .ok (.invokevirtual 132, 3) := by decide +kernel
theorem dX1_casesAsleep_156 : decode cX1_casesAsleep 156 = .ok (.lmul, 1) := by decide +kernel
theorem dX1_casesAsleep_157 : decode cX1_casesAsleep 157 = .ok (.ladd, 1) := by decide +kernel
theorem dX1_casesAsleep_158 : decode cX1_casesAsleep 158 = .ok (.lstore 9, 2) := by decide +kernel
theorem dX1_casesAsleep_160 : decode cX1_casesAsleep 160 = .ok (.lload 9, 2) := by decide +kernel
theorem dX1_casesAsleep_162 : decode cX1_casesAsleep 162 = .ok (.lreturn, 1) := by decide +kernel
theorem dX1_cancel_0 : decode cX1_cancel 0 = .ok (.aload_n 0, 1) := by decide +kernel
theorem dX1_cancel_1 : decode cX1_cancel 1 = .ok (.getfield 136, 3) := by decide +kernel
theorem dX1_cancel_4 : decode cX1_cancel 4 = .ok (.lconst 0, 1) := by decide +kernel
theorem dX1_cancel_5 : decode cX1_cancel 5 = .ok (.lcmp, 1) := by decide +kernel
theorem dX1_cancel_6 : decode cX1_cancel 6 = .ok (.ifCond .ne 8, 3) := by decide +kernel
theorem dX1_cancel_9 : decode cX1_cancel 9 = .ok (.aload_n 0, 1) := by decide +kernel
theorem dX1_cancel_10 : decode cX1_cancel 10 = .ok (.lconst 1, 1) := by decide +kernel
theorem dX1_cancel_11 : decode cX1_cancel 11 = .ok (.putfield 140, 3) := by decide +kernel
theorem dX1_cancel_14 : decode cX1_cancel 14 = .ok (.iconst 0, 1) := by decide +kernel
theorem dX1_cancel_15 : decode cX1_cancel 15 = .ok (.istore_n 2, 1) := by decide +kernel
theorem dX1_cancel_16 : decode cX1_cancel 16 = .ok (.iload_n 2, 1) := by decide +kernel
theorem dX1_cancel_17 : decode cX1_cancel 17 = .ok (.iload_n 1, 1) := by decide +kernel
theorem dX1_cancel_18 : decode cX1_cancel 18 = .ok (.if_icmp .ge 19, 3) := by decide +kernel
theorem dX1_cancel_21 : decode cX1_cancel 21 = .ok (.aload_n 0, 1) := by decide +kernel
theorem dX1_cancel_22 : decode cX1_cancel 22 = .ok (.iconst 2, 1) := by decide +kernel
theorem dX1_cancel_23 : decode cX1_cancel 23 = .ok (.invokevirtual 151, 3) := by decide +kernel
theorem dX1_cancel_26 : decode cX1_cancel 26 = .ok (.aload_n 0, 1) := by decide +kernel
theorem dX1_cancel_27 : decode cX1_cancel 27 = .ok (.iconst 5, 1) := by decide +kernel
theorem dX1_cancel_28 : decode cX1_cancel 28 = .ok (.invokevirtual 151, 3) := by decide +kernel
theorem dX1_cancel_31 : decode cX1_cancel 31 = .ok (.iinc 2 1, 3) := by decide +kernel
theorem dX1_cancel_34 : decode cX1_cancel 34 = .ok (.goto (-18), 3) := by decide +kernel
theorem dX1_cancel_37 : decode cX1_cancel 37 = .ok (.return_, 1) := by decide +kernel
theorem dX1_cancelBy_0 : decode cX1_cancelBy 0 = .ok (.iload_n 1, 1) := by decide +kernel
theorem dX1_cancelBy_1 : decode cX1_cancelBy 1 = .ok (.ifCond .eq 49, 3) := by decide +kernel
theorem dX1_cancelBy_4 : decode cX1_cancelBy 4 = .ok (.aload_n 0, 1) := by decide +kernel
theorem dX1_cancelBy_5 : decode cX1_cancelBy 5 = .ok (.getfield 136, 3) := by decide +kernel
theorem dX1_cancelBy_8 : decode cX1_cancelBy 8 = .ok (.iload_n 1, 1) := by decide +kernel
theorem dX1_cancelBy_9 : decode cX1_cancelBy 9 = .ok (.i2l, 1) := by decide +kernel
theorem dX1_cancelBy_10 : decode cX1_cancelBy 10 = .ok (.lrem, 1) := by decide +kernel
theorem dX1_cancelBy_11 : decode cX1_cancelBy 11 = .ok (.lconst 0, 1) := by decide +kernel
theorem dX1_cancelBy_12 : decode cX1_cancelBy 12 = .ok (.lcmp, 1) := by decide +kernel
theorem dX1_cancelBy_13 : decode cX1_cancelBy 13 = .ok (.ifCond .ne 37, 3) := by decide +kernel
theorem dX1_cancelBy_16 : decode cX1_cancelBy 16 = .ok (.aload_n 0, 1) := by decide +kernel
theorem dX1_cancelBy_17 : decode cX1_cancelBy 17 = .ok (.getfield 140, 3) := by decide +kernel
theorem dX1_cancelBy_20 : decode cX1_cancelBy 20 = .ok (.iload_n 1, 1) := by decide +kernel
theorem dX1_cancelBy_21 : decode cX1_cancelBy 21 = .ok (.i2l, 1) := by decide +kernel
theorem dX1_cancelBy_22 : decode cX1_cancelBy 22 = .ok (.lrem, 1) := by decide +kernel
theorem dX1_cancelBy_23 : decode cX1_cancelBy 23 = .ok (.lconst 0, 1) := by decide +kernel
theorem dX1_cancelBy_24 : decode cX1_cancelBy 24 = .ok (.lcmp, 1) := by decide +kernel
theorem dX1_cancelBy_25 : decode cX1_cancelBy 25 = .ok (.ifCond .ne 25, 3) := by decide +kernel
theorem dX1_cancelBy_28 : decode cX1_cancelBy 28 = .ok (.aload_n 0, 1) := by decide +kernel
theorem dX1_cancelBy_29 : decode cX1_cancelBy 29 = .ok (.dup, 1) := by decide +kernel
theorem dX1_cancelBy_30 : decode cX1_cancelBy 30 = .ok (.getfield 136, 3) := by decide +kernel
theorem dX1_cancelBy_33 : decode cX1_cancelBy 33 = .ok (.iload_n 1, 1) := by decide +kernel
theorem dX1_cancelBy_34 : decode cX1_cancelBy 34 = .ok (.i2l, 1) := by decide +kernel
theorem dX1_cancelBy_35 : decode cX1_cancelBy 35 = .ok (.ldiv, 1) := by decide +kernel
theorem dX1_cancelBy_36 : decode cX1_cancelBy 36 = .ok (.putfield 136, 3) := by decide +kernel
theorem dX1_cancelBy_39 : decode cX1_cancelBy 39 = .ok (.aload_n 0, 1) := by decide +kernel
theorem dX1_cancelBy_40 : decode cX1_cancelBy 40 = .ok (.dup, 1) := by decide +kernel
theorem dX1_cancelBy_41 : decode cX1_cancelBy 41 = .ok (.getfield 140, 3) := by decide +kernel
theorem dX1_cancelBy_44 : decode cX1_cancelBy 44 = .ok (.iload_n 1, 1) := by decide +kernel
theorem dX1_cancelBy_45 : decode cX1_cancelBy 45 = .ok (.i2l, 1) := by decide +kernel
theorem dX1_cancelBy_46 : decode cX1_cancelBy 46 = .ok (.ldiv, 1) := by decide +kernel
theorem dX1_cancelBy_47 : decode cX1_cancelBy 47 = .ok (.putfield 140, 3) := by decide +kernel
theorem dX1_cancelBy_50 : decode cX1_cancelBy 50 = .ok (.return_, 1) := by decide +kernel
theorem dX1_drawDay_0 : decode cX1_drawDay 0 = .ok (.aload_n 0, 1) := by decide +kernel
theorem dX1_drawDay_1 : decode cX1_drawDay 1 = .ok (.getfield 12, 3) := by decide +kernel
theorem dX1_drawDay_4 : decode cX1_drawDay 4 = .ok (.aload_n 1, 1) := by decide +kernel
theorem dX1_drawDay_5 : decode cX1_drawDay 5 = .ok (.invokevirtual 26, 3) := by decide +kernel
theorem dX1_drawDay_8 : decode cX1_drawDay 8 = .ok (.iload_n 3, 1) := by decide +kernel
theorem dX1_drawDay_9 : decode cX1_drawDay 9 = .ok (.i2l, 1) := by decide +kernel
theorem dX1_drawDay_10 : decode cX1_drawDay 10 = .ok (.lstore 4, 2) := by decide +kernel
theorem dX1_drawDay_12 : decode cX1_drawDay 12 = .ok (.iconst 0, 1) := by decide +kernel
theorem dX1_drawDay_13 : decode cX1_drawDay 13 = .ok (.istore 6, 2) := by decide +kernel
theorem dX1_drawDay_15 : decode cX1_drawDay 15 = .ok (.iconst 0, 1) := by decide +kernel
theorem dX1_drawDay_16 : decode cX1_drawDay 16 = .ok (.istore 7, 2) := by decide +kernel
theorem dX1_drawDay_18 : decode cX1_drawDay 18 = .ok (.iload 7, 2) := by decide +kernel
theorem dX1_drawDay_20 : decode cX1_drawDay 20 = .ok (.iload_n 2, 1) := by decide +kernel
theorem dX1_drawDay_21 : decode cX1_drawDay 21 = .ok (.if_icmp .ge 123, 3) := by decide +kernel
theorem dX1_drawDay_24 : decode cX1_drawDay 24 = .ok (.lload 4, 2) := by decide +kernel
theorem dX1_drawDay_26 : decode cX1_drawDay 26 = .ok (.ldc2_w 154, 3) := by decide +kernel
theorem dX1_drawDay_29 : decode cX1_drawDay 29 = .ok (.lmul, 1) := by decide +kernel
theorem dX1_drawDay_30 : decode cX1_drawDay 30 = .ok (.ldc2_w 156, 3) := by decide +kernel
theorem dX1_drawDay_33 : decode cX1_drawDay 33 = .ok (.lrem, 1) := by decide +kernel
theorem dX1_drawDay_34 : decode cX1_drawDay 34 = .ok (.lstore 4, 2) := by decide +kernel
theorem dX1_drawDay_36 : decode cX1_drawDay 36 = .ok (.lload 4, 2) := by decide +kernel
theorem dX1_drawDay_38 : decode cX1_drawDay 38 = .ok (.ldc2_w 158, 3) := by decide +kernel
theorem dX1_drawDay_41 : decode cX1_drawDay 41 = .ok (.lrem, 1) := by decide +kernel
theorem dX1_drawDay_42 : decode cX1_drawDay 42 = .ok (.lconst 0, 1) := by decide +kernel
theorem dX1_drawDay_43 : decode cX1_drawDay 43 = .ok (.lcmp, 1) := by decide +kernel
theorem dX1_drawDay_44 : decode cX1_drawDay 44 = .ok (.ifCond .ne 18, 3) := by decide +kernel
theorem dX1_drawDay_47 : decode cX1_drawDay 47 = .ok (.aload_n 0, 1) := by decide +kernel
theorem dX1_drawDay_48 : decode cX1_drawDay 48 = .ok (.getfield 12, 3) := by decide +kernel
theorem dX1_drawDay_51 : decode cX1_drawDay 51 = .ok (.lload 4, 2) := by decide +kernel
theorem dX1_drawDay_53 : decode cX1_drawDay 53 = .ok (.ldc2_w 160, 3) := by decide +kernel
theorem dX1_drawDay_56 : decode cX1_drawDay 56 = .ok (.lrem, 1) := by decide +kernel
theorem dX1_drawDay_57 : decode cX1_drawDay 57 = .ok (.l2i, 1) := by decide +kernel
theorem dX1_drawDay_58 : decode cX1_drawDay 58 = .ok (.invokevirtual 148, 3) := by decide +kernel
theorem dX1_drawDay_61 : decode cX1_drawDay 61 = .ok (.pop, 1) := by decide +kernel
theorem dX1_drawDay_62 : decode cX1_drawDay 62 = .ok (.lload 4, 2) := by decide +kernel
theorem dX1_drawDay_64 : decode cX1_drawDay 64 = .ok (.ldc2_w 162, 3) := by decide +kernel
theorem dX1_drawDay_67 : decode cX1_drawDay 67 = .ok (.lrem, 1) := by decide +kernel
theorem dX1_drawDay_68 : decode cX1_drawDay 68 = .ok (.lconst 0, 1) := by decide +kernel
theorem dX1_drawDay_69 : decode cX1_drawDay 69 = .ok (.lcmp, 1) := by decide +kernel
theorem dX1_drawDay_70 : decode cX1_drawDay 70 = .ok (.ifCond .ne 39, 3) := by decide +kernel
theorem dX1_drawDay_73 : decode cX1_drawDay 73 = .ok (.aload_n 0, 1) := by decide +kernel
theorem dX1_drawDay_74 : decode cX1_drawDay 74 = .ok (.getfield 12, 3) := by decide +kernel
theorem dX1_drawDay_77 : decode cX1_drawDay 77 = .ok (.getfield 82, 3) := by decide +kernel
theorem dX1_drawDay_80 : decode cX1_drawDay 80 = .ok (.ifCond .le 29, 3) := by decide +kernel
theorem dX1_drawDay_83 : decode cX1_drawDay 83 = .ok (.aload_n 0, 1) := by decide +kernel
theorem dX1_drawDay_84 : decode cX1_drawDay 84 = .ok (.getfield 12, 3) := by decide +kernel
theorem dX1_drawDay_87 : decode cX1_drawDay 87 = .ok (.dup, 1) := by decide +kernel
theorem dX1_drawDay_88 : decode cX1_drawDay 88 = .ok (.getfield 47, 3) := by decide +kernel
theorem dX1_drawDay_91 : decode cX1_drawDay 91 = .ok (.iconst 1, 1) := by decide +kernel
theorem dX1_drawDay_92 : decode cX1_drawDay 92 = .ok (.lload 4, 2) := by decide +kernel
theorem dX1_drawDay_94 : decode cX1_drawDay 94 = .ok (.aload_n 0, 1) := by decide +kernel
theorem dX1_drawDay_95 : decode cX1_drawDay 95 = .ok (.getfield 12, 3) := by decide +kernel
theorem dX1_drawDay_98 : decode cX1_drawDay 98 = .ok (.getfield 82, 3) := by decide +kernel
theorem dX1_drawDay_101 : decode cX1_drawDay 101 = .ok (.i2l, 1) := by decide +kernel
theorem dX1_drawDay_102 : decode cX1_drawDay 102 = .ok (.lrem, 1) := by decide +kernel
theorem dX1_drawDay_103 : decode cX1_drawDay 103 = .ok (.l2i, 1) := by decide +kernel
theorem dX1_drawDay_104 : decode cX1_drawDay 104 = .ok (.ishl, 1) := by decide +kernel
theorem dX1_drawDay_105 : decode cX1_drawDay 105 = .ok (.ior, 1) := by decide +kernel
theorem dX1_drawDay_106 : decode cX1_drawDay 106 = .ok (.putfield 47, 3) := by decide +kernel
theorem dX1_drawDay_109 : decode cX1_drawDay 109 = .ok (.aload_n 0, 1) := by decide +kernel
theorem dX1_drawDay_110 : decode cX1_drawDay 110 = .ok (.getfield 12, 3) := by decide +kernel
theorem dX1_drawDay_113 : decode cX1_drawDay 113 = .ok (.invokevirtual 38, 3) := by decide +kernel
theorem dX1_drawDay_116 : decode cX1_drawDay 116 = .ok (.pop, 1) := by decide +kernel
theorem dX1_drawDay_117 : decode cX1_drawDay 117 = .ok (.iload 6, 2) := by decide +kernel
theorem dX1_drawDay_119 : decode cX1_drawDay 119 = .ok (.aload_n 0, 1) := by decide +kernel
theorem dX1_drawDay_120 : decode cX1_drawDay 120 = .ok (.getfield 12, 3) := by decide +kernel
theorem dX1_drawDay_123 : decode cX1_drawDay 123 = .ok (.iconst 1, 1) := by decide +kernel
theorem dX1_drawDay_124 : decode cX1_drawDay 124 = .ok (.invokevirtual 72, 3) := by decide +kernel
theorem dX1_drawDay_127 : decode cX1_drawDay 127 = .ok (.ifCond .eq 7, 3) := by decide +kernel
theorem dX1_drawDay_130 : decode cX1_drawDay 130 = .ok (.iconst 1, 1) := by decide +kernel
theorem dX1_drawDay_131 : decode cX1_drawDay 131 = .ok (.goto 4, 3) := by decide +kernel
theorem dX1_drawDay_134 : decode cX1_drawDay 134 = .ok (.iconst 0, 1) := by decide +kernel
theorem dX1_drawDay_135 : decode cX1_drawDay 135 = .ok (.iadd, 1) := by decide +kernel
theorem dX1_drawDay_136 : decode cX1_drawDay 136 = .ok (.istore 6, 2) := by decide +kernel
theorem dX1_drawDay_138 : decode cX1_drawDay 138 = .ok (.iinc 7 1, 3) := by decide +kernel
theorem dX1_drawDay_141 : decode cX1_drawDay 141 = .ok (.goto (-123), 3) := by decide +kernel
theorem dX1_drawDay_144 : decode cX1_drawDay 144 = .ok (.iload 6, 2) := by decide +kernel
theorem dX1_drawDay_146 : decode cX1_drawDay 146 = .ok (.ireturn, 1) := by decide +kernel
theorem dX2_init_0 : decode cX2_init 0 = .ok (.aload_n 0, 1) := by decide +kernel
theorem dX2_init_1 : decode cX2_init 1 = .ok (.invokespecial 3, 3) := by decide +kernel
theorem dX2_init_4 : decode cX2_init 4 = .ok (.aload_n 0, 1) := by decide +kernel
theorem dX2_init_5 : decode cX2_init 5 = .ok (.bipush 24, 2) := by decide +kernel
theorem dX2_init_7 : decode cX2_init 7 = .ok (.anewarray 9, 3) := by decide +kernel
theorem dX2_init_10 : decode cX2_init 10 = .ok (.putfield 11, 3) := by decide +kernel
theorem dX2_init_13 : decode cX2_init 13 = .ok (.iconst 0, 1) := by decide +kernel
theorem dX2_init_14 : decode cX2_init 14 = .ok (.istore_n 1, 1) := by decide +kernel
theorem dX2_init_15 : decode cX2_init 15 = .ok (.iload_n 1, 1) := by decide +kernel
theorem dX2_init_16 : decode cX2_init 16 = .ok (.bipush 24, 2) := by decide +kernel
theorem dX2_init_18 : decode cX2_init 18 = .ok (.if_icmp .ge 22, 3) := by decide +kernel
theorem dX2_init_21 : decode cX2_init 21 = .ok (.aload_n 0, 1) := by decide +kernel
theorem dX2_init_22 : decode cX2_init 22 = .ok (.getfield 11, 3) := by decide +kernel
theorem dX2_init_25 : decode cX2_init 25 = .ok (.iload_n 1, 1) := by decide +kernel
theorem dX2_init_26 : decode cX2_init 26 = .ok (.new 9, 3) := by decide +kernel
theorem dX2_init_29 : decode cX2_init 29 = .ok (.dup, 1) := by decide +kernel
theorem dX2_init_30 : decode cX2_init 30 = .ok (.invokespecial 17, 3) := by decide +kernel
theorem dX2_init_33 : decode cX2_init 33 = .ok (.aastore, 1) := by decide +kernel
theorem dX2_init_34 : decode cX2_init 34 = .ok (.iinc 1 1, 3) := by decide +kernel
theorem dX2_init_37 : decode cX2_init 37 = .ok (.goto (-22), 3) := by decide +kernel
theorem dX2_init_40 : decode cX2_init 40 = .ok (.return_, 1) := by decide +kernel
theorem dX2_keep_0 : decode cX2_keep 0 = .ok (.aload_n 0, 1) := by decide +kernel
theorem dX2_keep_1 : decode cX2_keep 1 = .ok (.getfield 11, 3) := by decide +kernel
theorem dX2_keep_4 : decode cX2_keep 4 = .ok (.aload_n 0, 1) := by decide +kernel
theorem dX2_keep_5 : decode cX2_keep 5 = .ok (.getfield 18, 3) := by decide +kernel
theorem dX2_keep_8 : decode cX2_keep 8 = .ok (.aaload, 1) := by decide +kernel
theorem dX2_keep_9 : decode cX2_keep 9 = .ok (.aload_n 1, 1) := by decide +kernel
theorem dX2_keep_10 : decode cX2_keep 10 = .ok (.invokevirtual 22, 3) := by decide +kernel
theorem dX2_keep_13 : decode cX2_keep 13 = .ok (.aload_n 0, 1) := by decide +kernel
theorem dX2_keep_14 : decode cX2_keep 14 = .ok (.aload_n 0, 1) := by decide +kernel
theorem dX2_keep_15 : decode cX2_keep 15 = .ok (.getfield 18, 3) := by decide +kernel
theorem dX2_keep_18 : decode cX2_keep 18 = .ok (.iconst 1, 1) := by decide +kernel
theorem dX2_keep_19 : decode cX2_keep 19 = .ok (.iadd, 1) := by decide +kernel
theorem dX2_keep_20 : decode cX2_keep 20 = .ok (.bipush 24, 2) := by decide +kernel
theorem dX2_keep_22 : decode cX2_keep 22 = .ok (.irem, 1) := by decide +kernel
theorem dX2_keep_23 : decode cX2_keep 23 = .ok (.putfield 18, 3) := by decide +kernel
theorem dX2_keep_26 : decode cX2_keep 26 = .ok (.aload_n 0, 1) := by decide +kernel
theorem dX2_keep_27 : decode cX2_keep 27 = .ok (.aload_n 0, 1) := by decide +kernel
theorem dX2_keep_28 : decode cX2_keep 28 = .ok (.getfield 26, 3) := by decide +kernel
theorem dX2_keep_31 : decode cX2_keep 31 = .ok (.iconst 1, 1) := by decide +kernel
theorem dX2_keep_32 : decode cX2_keep 32 = .ok (.iadd, 1) := by decide +kernel
theorem dX2_keep_33 : decode cX2_keep 33 = .ok (.bipush 24, 2) := by decide +kernel
theorem dX2_keep_35 : decode cX2_keep 35 = .ok (.invokestatic 29, 3) := by decide +kernel
theorem dX2_keep_38 : decode cX2_keep 38 = .ok (.putfield 26, 3) := by decide +kernel
theorem dX2_keep_41 : decode cX2_keep 41 = .ok (.return_, 1) := by decide +kernel
theorem dX2_bringBack_0 : decode cX2_bringBack 0 = .ok (.aload_n 0, 1) := by decide +kernel
theorem dX2_bringBack_1 : decode cX2_bringBack 1 = .ok (.getfield 26, 3) := by decide +kernel
theorem dX2_bringBack_4 : decode cX2_bringBack 4 = .ok (.ifCond .ne 4, 3) := by decide +kernel
theorem dX2_bringBack_7 : decode cX2_bringBack 7 = .ok (.return_, 1) := by decide +kernel
theorem dX2_bringBack_8 : decode cX2_bringBack 8 = .ok (.aload_n 0, 1) := by decide +kernel
theorem dX2_bringBack_9 : decode cX2_bringBack 9 = .ok (.aload_n 0, 1) := by decide +kernel
theorem dX2_bringBack_10 : decode cX2_bringBack 10 = .ok (.getfield 18, 3) := by decide +kernel
theorem dX2_bringBack_13 : decode cX2_bringBack 13 = .ok (.bipush 24, 2) := by decide +kernel
theorem dX2_bringBack_15 : decode cX2_bringBack 15 = .ok (.iadd, 1) := by decide +kernel
theorem dX2_bringBack_16 : decode cX2_bringBack 16 = .ok (.iconst 1, 1) := by decide +kernel
theorem dX2_bringBack_17 : decode cX2_bringBack 17 = .ok (.isub, 1) := by decide +kernel
theorem dX2_bringBack_18 : decode cX2_bringBack 18 = .ok (.bipush 24, 2) := by decide +kernel
theorem dX2_bringBack_20 : decode cX2_bringBack 20 = .ok (.irem, 1) := by decide +kernel
theorem dX2_bringBack_21 : decode cX2_bringBack 21 = .ok (.putfield 18, 3) := by decide +kernel
theorem dX2_bringBack_24 : decode cX2_bringBack 24 = .ok (.aload_n 0, 1) := by decide +kernel
theorem dX2_bringBack_25 : decode cX2_bringBack 25 = .ok (.dup, 1) := by decide +kernel
theorem dX2_bringBack_26 : decode cX2_bringBack 26 = .ok (.getfield 26, 3) := by decide +kernel
theorem dX2_bringBack_29 : decode cX2_bringBack 29 = .ok (.iconst 1, 1) := by decide +kernel
theorem dX2_bringBack_30 : decode cX2_bringBack 30 = .ok (.isub, 1) := by decide +kernel
theorem dX2_bringBack_31 : decode cX2_bringBack 31 = .ok (.putfield 26, 3) := by decide +kernel
theorem dX2_bringBack_34 : decode cX2_bringBack 34 = .ok (.aload_n 1, 1) := by decide +kernel
theorem dX2_bringBack_35 : decode cX2_bringBack 35 = .ok (.aload_n 0, 1) := by decide +kernel
theorem dX2_bringBack_36 : decode cX2_bringBack 36 = .ok (.getfield 11, 3) := by decide +kernel
theorem dX2_bringBack_39 : decode cX2_bringBack 39 = .ok (.aload_n 0, 1) := by decide +kernel
theorem dX2_bringBack_40 : decode cX2_bringBack 40 = .ok (.getfield 18, 3) := by decide +kernel
theorem dX2_bringBack_43 : decode cX2_bringBack 43 = .ok (.aaload, 1) := by decide +kernel
theorem dX2_bringBack_44 : decode cX2_bringBack 44 = .ok (.invokevirtual 22, 3) := by decide +kernel
theorem dX2_bringBack_47 : decode cX2_bringBack 47 = .ok (.return_, 1) := by decide +kernel
theorem dX2_forget_0 : decode cX2_forget 0 = .ok (.aload_n 0, 1) := by decide +kernel
theorem dX2_forget_1 : decode cX2_forget 1 = .ok (.iconst 0, 1) := by decide +kernel
theorem dX2_forget_2 : decode cX2_forget 2 = .ok (.putfield 26, 3) := by decide +kernel
theorem dX2_forget_5 : decode cX2_forget 5 = .ok (.return_, 1) := by decide +kernel
theorem dX3_init_0 : decode cX3_init 0 = .ok (.aload_n 0, 1) := by decide +kernel
theorem dX3_init_1 : decode cX3_init 1 = .ok (.invokespecial 3, 3) := by decide +kernel
theorem dX3_init_4 : decode cX3_init 4 = .ok (.aload_n 0, 1) := by decide +kernel
theorem dX3_init_5 : decode cX3_init 5 = .ok (.bipush 7, 2) := by decide +kernel
theorem dX3_init_7 : decode cX3_init 7 = .ok (.newarray .int, 2) := by decide +kernel
theorem dX3_init_9 : decode cX3_init 9 = .ok (.putfield 9, 3) := by decide +kernel
theorem dX3_init_12 : decode cX3_init 12 = .ok (.aload_n 0, 1) := by decide +kernel
theorem dX3_init_13 : decode cX3_init 13 = .ok (.bipush 7, 2) := by decide +kernel
theorem dX3_init_15 : decode cX3_init 15 = .ok (.newarray .int, 2) := by decide +kernel
theorem dX3_init_17 : decode cX3_init 17 = .ok (.putfield 15, 3) := by decide +kernel
theorem dX3_init_20 : decode cX3_init 20 = .ok (.aload_n 0, 1) := by decide +kernel
theorem dX3_init_21 : decode cX3_init 21 = .ok (.bipush 7, 2) := by decide +kernel
theorem dX3_init_23 : decode cX3_init 23 = .ok (.newarray .int, 2) := by decide +kernel
theorem dX3_init_25 : decode cX3_init 25 = .ok (.putfield 18, 3) := by decide +kernel
theorem dX3_init_28 : decode cX3_init 28 = .ok (.aload_n 0, 1) := by decide +kernel
theorem dX3_init_29 : decode cX3_init 29 = .ok (.bipush 7, 2) := by decide +kernel
theorem dX3_init_31 : decode cX3_init 31 = .ok (.newarray .int, 2) := by decide +kernel
theorem dX3_init_33 : decode cX3_init 33 = .ok (.putfield 21, 3) := by decide +kernel
theorem dX3_init_36 : decode cX3_init 36 = .ok (.aload_n 0, 1) := by decide +kernel
theorem dX3_init_37 : decode cX3_init 37 = .ok (.bipush 7, 2) := by decide +kernel
theorem dX3_init_39 : decode cX3_init 39 = .ok (.newarray .int, 2) := by decide +kernel
theorem dX3_init_41 : decode cX3_init 41 = .ok (.putfield 24, 3) := by decide +kernel
theorem dX3_init_44 : decode cX3_init 44 = .ok (.aload_n 0, 1) := by decide +kernel
theorem dX3_init_45 : decode cX3_init 45 = .ok (.bipush 7, 2) := by decide +kernel
theorem dX3_init_47 : decode cX3_init 47 = .ok (.newarray .int, 2) := by decide +kernel
theorem dX3_init_49 : decode cX3_init 49 = .ok (.putfield 27, 3) := by decide +kernel
theorem dX3_init_52 : decode cX3_init 52 = .ok (.aload_n 0, 1) := by decide +kernel
theorem dX3_init_53 : decode cX3_init 53 = .ok (.bipush 7, 2) := by decide +kernel
theorem dX3_init_55 : decode cX3_init 55 = .ok (.newarray .int, 2) := by decide +kernel
theorem dX3_init_57 : decode cX3_init 57 = .ok (.putfield 30, 3) := by decide +kernel
theorem dX3_init_60 : decode cX3_init 60 = .ok (.aload_n 0, 1) := by decide +kernel
theorem dX3_init_61 : decode cX3_init 61 = .ok (.bipush 7, 2) := by decide +kernel
theorem dX3_init_63 : decode cX3_init 63 = .ok (.newarray .int, 2) := by decide +kernel
theorem dX3_init_65 : decode cX3_init 65 = .ok (.putfield 33, 3) := by decide +kernel
theorem dX3_init_68 : decode cX3_init 68 = .ok (.return_, 1) := by decide +kernel
theorem dX3_clear_0 : decode cX3_clear 0 = .ok (.aload_n 0, 1) := by decide +kernel
theorem dX3_clear_1 : decode cX3_clear 1 = .ok (.iconst 0, 1) := by decide +kernel
theorem dX3_clear_2 : decode cX3_clear 2 = .ok (.putfield 36, 3) := by decide +kernel
theorem dX3_clear_5 : decode cX3_clear 5 = .ok (.aload_n 0, 1) := by decide +kernel
theorem dX3_clear_6 : decode cX3_clear 6 = .ok (.iconst 0, 1) := by decide +kernel
theorem dX3_clear_7 : decode cX3_clear 7 = .ok (.putfield 40, 3) := by decide +kernel
theorem dX3_clear_10 : decode cX3_clear 10 = .ok (.aload_n 0, 1) := by decide +kernel
theorem dX3_clear_11 : decode cX3_clear 11 = .ok (.iconst 0, 1) := by decide +kernel
theorem dX3_clear_12 : decode cX3_clear 12 = .ok (.putfield 43, 3) := by decide +kernel
theorem dX3_clear_15 : decode cX3_clear 15 = .ok (.aload_n 0, 1) := by decide +kernel
theorem dX3_clear_16 : decode cX3_clear 16 = .ok (.iconst 0, 1) := by decide +kernel
theorem dX3_clear_17 : decode cX3_clear 17 = .ok (.putfield 46, 3) := by decide +kernel
theorem dX3_clear_20 : decode cX3_clear 20 = .ok (.aload_n 0, 1) := by decide +kernel
theorem dX3_clear_21 : decode cX3_clear 21 = .ok (.iconst 0, 1) := by decide +kernel
theorem dX3_clear_22 : decode cX3_clear 22 = .ok (.putfield 49, 3) := by decide +kernel
theorem dX3_clear_25 : decode cX3_clear 25 = .ok (.aload_n 0, 1) := by decide +kernel
theorem dX3_clear_26 : decode cX3_clear 26 = .ok (.iconst 0, 1) := by decide +kernel
theorem dX3_clear_27 : decode cX3_clear 27 = .ok (.putfield 52, 3) := by decide +kernel
theorem dX3_clear_30 : decode cX3_clear 30 = .ok (.return_, 1) := by decide +kernel
theorem dX3_addChild_0 : decode cX3_addChild 0 = .ok (.aload_n 0, 1) := by decide +kernel
theorem dX3_addChild_1 : decode cX3_addChild 1 = .ok (.getfield 36, 3) := by decide +kernel
theorem dX3_addChild_4 : decode cX3_addChild 4 = .ok (.bipush 7, 2) := by decide +kernel
theorem dX3_addChild_6 : decode cX3_addChild 6 = .ok (.if_icmp .lt 4, 3) := by decide +kernel
theorem dX3_addChild_9 : decode cX3_addChild 9 = .ok (.return_, 1) := by decide +kernel
theorem dX3_addChild_10 : decode cX3_addChild 10 = .ok (.aload_n 0, 1) := by decide +kernel
theorem dX3_addChild_11 : decode cX3_addChild 11 = .ok (.getfield 9, 3) := by decide +kernel
theorem dX3_addChild_14 : decode cX3_addChild 14 = .ok (.aload_n 0, 1) := by decide +kernel
theorem dX3_addChild_15 : decode cX3_addChild 15 = .ok (.getfield 36, 3) := by decide +kernel
theorem dX3_addChild_18 : decode cX3_addChild 18 = .ok (.iload_n 1, 1) := by decide +kernel
theorem dX3_addChild_19 : decode cX3_addChild 19 = .ok (.iastore, 1) := by decide +kernel
theorem dX3_addChild_20 : decode cX3_addChild 20 = .ok (.aload_n 0, 1) := by decide +kernel
theorem dX3_addChild_21 : decode cX3_addChild 21 = .ok (.getfield 24, 3) := by decide +kernel
theorem dX3_addChild_24 : decode cX3_addChild 24 = .ok (.aload_n 0, 1) := by decide +kernel
theorem dX3_addChild_25 : decode cX3_addChild 25 = .ok (.getfield 36, 3) := by decide +kernel
theorem dX3_addChild_28 : decode cX3_addChild 28 = .ok (.aload_n 0, 1) := by decide +kernel
theorem dX3_addChild_29 : decode cX3_addChild 29 = .ok (.getfield 36, 3) := by decide +kernel
theorem dX3_addChild_32 : decode cX3_addChild 32 = .ok (.iastore, 1) := by decide +kernel
theorem dX3_addChild_33 : decode cX3_addChild 33 = .ok (.aload_n 0, 1) := by decide +kernel
theorem dX3_addChild_34 : decode cX3_addChild 34 = .ok (.aload_n 0, 1) := by decide +kernel
theorem dX3_addChild_35 : decode cX3_addChild 35 = .ok (.getfield 36, 3) := by decide +kernel
theorem dX3_addChild_38 : decode cX3_addChild 38 = .ok (.invokevirtual 55, 3) := by decide +kernel
theorem dX3_addChild_41 : decode cX3_addChild 41 = .ok (.aload_n 0, 1) := by decide +kernel
theorem dX3_addChild_42 : decode cX3_addChild 42 = .ok (.dup, 1) := by decide +kernel
theorem dX3_addChild_43 : decode cX3_addChild 43 = .ok (.getfield 36, 3) := by decide +kernel
theorem dX3_addChild_46 : decode cX3_addChild 46 = .ok (.iconst 1, 1) := by decide +kernel
theorem dX3_addChild_47 : decode cX3_addChild 47 = .ok (.iadd, 1) := by decide +kernel
theorem dX3_addChild_48 : decode cX3_addChild 48 = .ok (.putfield 36, 3) := by decide +kernel
theorem dX3_addChild_51 : decode cX3_addChild 51 = .ok (.return_, 1) := by decide +kernel
theorem dX3_become_0 : decode cX3_become 0 = .ok (.aload_n 0, 1) := by decide +kernel
theorem dX3_become_1 : decode cX3_become 1 = .ok (.aload_n 1, 1) := by decide +kernel
theorem dX3_become_2 : decode cX3_become 2 = .ok (.getfield 36, 3) := by decide +kernel
theorem dX3_become_5 : decode cX3_become 5 = .ok (.putfield 36, 3) := by decide +kernel
theorem dX3_become_8 : decode cX3_become 8 = .ok (.aload_n 0, 1) := by decide +kernel
theorem dX3_become_9 : decode cX3_become 9 = .ok (.aload_n 1, 1) := by decide +kernel
theorem dX3_become_10 : decode cX3_become 10 = .ok (.getfield 40, 3) := by decide +kernel
theorem dX3_become_13 : decode cX3_become 13 = .ok (.putfield 40, 3) := by decide +kernel
theorem dX3_become_16 : decode cX3_become 16 = .ok (.aload_n 0, 1) := by decide +kernel
theorem dX3_become_17 : decode cX3_become 17 = .ok (.aload_n 1, 1) := by decide +kernel
theorem dX3_become_18 : decode cX3_become 18 = .ok (.getfield 43, 3) := by decide +kernel
theorem dX3_become_21 : decode cX3_become 21 = .ok (.putfield 43, 3) := by decide +kernel
theorem dX3_become_24 : decode cX3_become 24 = .ok (.aload_n 0, 1) := by decide +kernel
theorem dX3_become_25 : decode cX3_become 25 = .ok (.aload_n 1, 1) := by decide +kernel
theorem dX3_become_26 : decode cX3_become 26 = .ok (.getfield 46, 3) := by decide +kernel
theorem dX3_become_29 : decode cX3_become 29 = .ok (.putfield 46, 3) := by decide +kernel
theorem dX3_become_32 : decode cX3_become 32 = .ok (.aload_n 0, 1) := by decide +kernel
theorem dX3_become_33 : decode cX3_become 33 = .ok (.aload_n 1, 1) := by decide +kernel
theorem dX3_become_34 : decode cX3_become 34 = .ok (.getfield 49, 3) := by decide +kernel
theorem dX3_become_37 : decode cX3_become 37 = .ok (.putfield 49, 3) := by decide +kernel
theorem dX3_become_40 : decode cX3_become 40 = .ok (.aload_n 0, 1) := by decide +kernel
theorem dX3_become_41 : decode cX3_become 41 = .ok (.aload_n 1, 1) := by decide +kernel
theorem dX3_become_42 : decode cX3_become 42 = .ok (.getfield 52, 3) := by decide +kernel
theorem dX3_become_45 : decode cX3_become 45 = .ok (.putfield 52, 3) := by decide +kernel
theorem dX3_become_48 : decode cX3_become 48 = .ok (.aload_n 1, 1) := by decide +kernel
theorem dX3_become_49 : decode cX3_become 49 = .ok (.getfield 9, 3) := by decide +kernel
theorem dX3_become_52 : decode cX3_become 52 = .ok (.iconst 0, 1) := by decide +kernel
theorem dX3_become_53 : decode cX3_become 53 = .ok (.aload_n 0, 1) := by decide +kernel
theorem dX3_become_54 : decode cX3_become 54 = .ok (.getfield 9, 3) := by decide +kernel
theorem dX3_become_57 : decode cX3_become 57 = .ok (.iconst 0, 1) := by decide +kernel
theorem dX3_become_58 : decode cX3_become 58 = .ok (.bipush 7, 2) := by decide +kernel
theorem dX3_become_60 : decode cX3_become 60 = .ok (.invokestatic 59, 3) := by decide +kernel
theorem dX3_become_63 : decode cX3_become 63 = .ok (.aload_n 1, 1) := by decide +kernel
theorem dX3_become_64 : decode cX3_become 64 = .ok (.getfield 15, 3) := by decide +kernel
theorem dX3_become_67 : decode cX3_become 67 = .ok (.iconst 0, 1) := by decide +kernel
theorem dX3_become_68 : decode cX3_become 68 = .ok (.aload_n 0, 1) := by decide +kernel
theorem dX3_become_69 : decode cX3_become 69 = .ok (.getfield 15, 3) := by decide +kernel
theorem dX3_become_72 : decode cX3_become 72 = .ok (.iconst 0, 1) := by decide +kernel
theorem dX3_become_73 : decode cX3_become 73 = .ok (.bipush 7, 2) := by decide +kernel
theorem dX3_become_75 : decode cX3_become 75 = .ok (.invokestatic 59, 3) := by decide +kernel
theorem dX3_become_78 : decode cX3_become 78 = .ok (.aload_n 1, 1) := by decide +kernel
theorem dX3_become_79 : decode cX3_become 79 = .ok (.getfield 18, 3) := by decide +kernel
theorem dX3_become_82 : decode cX3_become 82 = .ok (.iconst 0, 1) := by decide +kernel
theorem dX3_become_83 : decode cX3_become 83 = .ok (.aload_n 0, 1) := by decide +kernel
theorem dX3_become_84 : decode cX3_become 84 = .ok (.getfield 18, 3) := by decide +kernel
theorem dX3_become_87 : decode cX3_become 87 = .ok (.iconst 0, 1) := by decide +kernel
theorem dX3_become_88 : decode cX3_become 88 = .ok (.bipush 7, 2) := by decide +kernel
theorem dX3_become_90 : decode cX3_become 90 = .ok (.invokestatic 59, 3) := by decide +kernel
theorem dX3_become_93 : decode cX3_become 93 = .ok (.aload_n 1, 1) := by decide +kernel
theorem dX3_become_94 : decode cX3_become 94 = .ok (.getfield 21, 3) := by decide +kernel
theorem dX3_become_97 : decode cX3_become 97 = .ok (.iconst 0, 1) := by decide +kernel
theorem dX3_become_98 : decode cX3_become 98 = .ok (.aload_n 0, 1) := by decide +kernel
theorem dX3_become_99 : decode cX3_become 99 = .ok (.getfield 21, 3) := by decide +kernel
theorem dX3_become_102 : decode cX3_become 102 = .ok (.iconst 0, 1) := by decide +kernel
theorem dX3_become_103 : decode cX3_become 103 = .ok (.bipush 7, 2) := by decide +kernel
theorem dX3_become_105 : decode cX3_become 105 = .ok (.invokestatic 59, 3) := by decide +kernel
theorem dX3_become_108 : decode cX3_become 108 = .ok (.aload_n 1, 1) := by decide +kernel
theorem dX3_become_109 : decode cX3_become 109 = .ok (.getfield 24, 3) := by decide +kernel
theorem dX3_become_112 : decode cX3_become 112 = .ok (.iconst 0, 1) := by decide +kernel
theorem dX3_become_113 : decode cX3_become 113 = .ok (.aload_n 0, 1) := by decide +kernel
theorem dX3_become_114 : decode cX3_become 114 = .ok (.getfield 24, 3) := by decide +kernel
theorem dX3_become_117 : decode cX3_become 117 = .ok (.iconst 0, 1) := by decide +kernel
theorem dX3_become_118 : decode cX3_become 118 = .ok (.bipush 7, 2) := by decide +kernel
theorem dX3_become_120 : decode cX3_become 120 = .ok (.invokestatic 59, 3) := by decide +kernel
theorem dX3_become_123 : decode cX3_become 123 = .ok (.aload_n 1, 1) := by decide +kernel
theorem dX3_become_124 : decode cX3_become 124 = .ok (.getfield 27, 3) := by decide +kernel
theorem dX3_become_127 : decode cX3_become 127 = .ok (.iconst 0, 1) := by decide +kernel
theorem dX3_become_128 : decode cX3_become 128 = .ok (.aload_n 0, 1) := by decide +kernel
theorem dX3_become_129 : decode cX3_become 129 = .ok (.getfield 27, 3) := by decide +kernel
theorem dX3_become_132 : decode cX3_become 132 = .ok (.iconst 0, 1) := by decide +kernel
theorem dX3_become_133 : decode cX3_become 133 = .ok (.bipush 7, 2) := by decide +kernel
theorem dX3_become_135 : decode cX3_become 135 = .ok (.invokestatic 59, 3) := by decide +kernel
theorem dX3_become_138 : decode cX3_become 138 = .ok (.aload_n 1, 1) := by decide +kernel
theorem dX3_become_139 : decode cX3_become 139 = .ok (.getfield 30, 3) := by decide +kernel
theorem dX3_become_142 : decode cX3_become 142 = .ok (.iconst 0, 1) := by decide +kernel
theorem dX3_become_143 : decode cX3_become 143 = .ok (.aload_n 0, 1) := by decide +kernel
theorem dX3_become_144 : decode cX3_become 144 = .ok (.getfield 30, 3) := by decide +kernel
theorem dX3_become_147 : decode cX3_become 147 = .ok (.iconst 0, 1) := by decide +kernel
theorem dX3_become_148 : decode cX3_become 148 = .ok (.bipush 7, 2) := by decide +kernel
theorem dX3_become_150 : decode cX3_become 150 = .ok (.invokestatic 59, 3) := by decide +kernel
theorem dX3_become_153 : decode cX3_become 153 = .ok (.aload_n 1, 1) := by decide +kernel
theorem dX3_become_154 : decode cX3_become 154 = .ok (.getfield 33, 3) := by decide +kernel
theorem dX3_become_157 : decode cX3_become 157 = .ok (.iconst 0, 1) := by decide +kernel
theorem dX3_become_158 : decode cX3_become 158 = .ok (.aload_n 0, 1) := by decide +kernel
theorem dX3_become_159 : decode cX3_become 159 = .ok (.getfield 33, 3) := by decide +kernel
theorem dX3_become_162 : decode cX3_become 162 = .ok (.iconst 0, 1) := by decide +kernel
theorem dX3_become_163 : decode cX3_become 163 = .ok (.bipush 7, 2) := by decide +kernel
theorem dX3_become_165 : decode cX3_become 165 = .ok (.invokestatic 59, 3) := by decide +kernel
theorem dX3_become_168 : decode cX3_become 168 = .ok (.return_, 1) := by decide +kernel
theorem dX3_everybody_0 : decode cX3_everybody 0 = .ok (.iconst 1, 1) := by decide +kernel
theorem dX3_everybody_1 : decode cX3_everybody 1 = .ok (.aload_n 0, 1) := by decide +kernel
theorem dX3_everybody_2 : decode cX3_everybody 2 = .ok (.getfield 36, 3) := by decide +kernel
theorem dX3_everybody_5 : decode cX3_everybody 5 = .ok (.ishl, 1) := by decide +kernel
theorem dX3_everybody_6 : decode cX3_everybody 6 = .ok (.iconst 1, 1) := by decide +kernel
theorem dX3_everybody_7 : decode cX3_everybody 7 = .ok (.isub, 1) := by decide +kernel
theorem dX3_everybody_8 : decode cX3_everybody 8 = .ok (.ireturn, 1) := by decide +kernel
theorem dX3_thoseWho_0 : decode cX3_thoseWho 0 = .ok (.iconst 0, 1) := by decide +kernel
theorem dX3_thoseWho_1 : decode cX3_thoseWho 1 = .ok (.istore_n 2, 1) := by decide +kernel
theorem dX3_thoseWho_2 : decode cX3_thoseWho 2 = .ok (.iconst 0, 1) := by decide +kernel
theorem dX3_thoseWho_3 : decode cX3_thoseWho 3 = .ok (.istore_n 3, 1) := by decide +kernel
theorem dX3_thoseWho_4 : decode cX3_thoseWho 4 = .ok (.iload_n 3, 1) := by decide +kernel
theorem dX3_thoseWho_5 : decode cX3_thoseWho 5 = .ok (.aload_n 0, 1) := by decide +kernel
theorem dX3_thoseWho_6 : decode cX3_thoseWho 6 = .ok (.getfield 36, 3) := by decide +kernel
theorem dX3_thoseWho_9 : decode cX3_thoseWho 9 = .ok (.if_icmp .ge 25, 3) := by decide +kernel
theorem dX3_thoseWho_12 : decode cX3_thoseWho 12 = .ok (.aload_n 0, 1) := by decide +kernel
theorem dX3_thoseWho_13 : decode cX3_thoseWho 13 = .ok (.getfield 27, 3) := by decide +kernel
theorem dX3_thoseWho_16 : decode cX3_thoseWho 16 = .ok (.iload_n 3, 1) := by decide +kernel
theorem dX3_thoseWho_17 : decode cX3_thoseWho 17 = .ok (.iaload, 1) := by decide +kernel
theorem dX3_thoseWho_18 : decode cX3_thoseWho 18 = .ok (.iload_n 1, 1) := by decide +kernel
theorem dX3_thoseWho_19 : decode cX3_thoseWho 19 = .ok (.if_icmp .ne 9, 3) := by decide +kernel
theorem dX3_thoseWho_22 : decode cX3_thoseWho 22 = .ok (.iload_n 2, 1) := by decide +kernel
theorem dX3_thoseWho_23 : decode cX3_thoseWho 23 = .ok (.iconst 1, 1) := by decide +kernel
theorem dX3_thoseWho_24 : decode cX3_thoseWho 24 = .ok (.iload_n 3, 1) := by decide +kernel
theorem dX3_thoseWho_25 : decode cX3_thoseWho 25 = .ok (.ishl, 1) := by decide +kernel
theorem dX3_thoseWho_26 : decode cX3_thoseWho 26 = .ok (.ior, 1) := by decide +kernel
theorem dX3_thoseWho_27 : decode cX3_thoseWho 27 = .ok (.istore_n 2, 1) := by decide +kernel
theorem dX3_thoseWho_28 : decode cX3_thoseWho 28 = .ok (.iinc 3 1, 3) := by decide +kernel
theorem dX3_thoseWho_31 : decode cX3_thoseWho 31 = .ok (.goto (-27), 3) := by decide +kernel
theorem dX3_thoseWho_34 : decode cX3_thoseWho 34 = .ok (.iload_n 2, 1) := by decide +kernel
theorem dX3_thoseWho_35 : decode cX3_thoseWho 35 = .ok (.ireturn, 1) := by decide +kernel
theorem dX3_sleepAll_0 : decode cX3_sleepAll 0 = .ok (.iload_n 1, 1) := by decide +kernel
theorem dX3_sleepAll_1 : decode cX3_sleepAll 1 = .ok (.aload_n 0, 1) := by decide +kernel
theorem dX3_sleepAll_2 : decode cX3_sleepAll 2 = .ok (.iconst 2, 1) := by decide +kernel
theorem dX3_sleepAll_3 : decode cX3_sleepAll 3 = .ok (.invokevirtual 65, 3) := by decide +kernel
theorem dX3_sleepAll_6 : decode cX3_sleepAll 6 = .ok (.iconst (-1), 1) := by decide +kernel
theorem dX3_sleepAll_7 : decode cX3_sleepAll 7 = .ok (.ixor, 1) := by decide +kernel
theorem dX3_sleepAll_8 : decode cX3_sleepAll 8 = .ok (.iand, 1) := by decide +kernel
theorem dX3_sleepAll_9 : decode cX3_sleepAll 9 = .ok (.ifCond .ne 7, 3) := by decide +kernel
theorem dX3_sleepAll_12 : decode cX3_sleepAll 12 = .ok (.iconst 1, 1) := by decide +kernel
theorem dX3_sleepAll_13 : decode cX3_sleepAll 13 = .ok (.goto 4, 3) := by decide +kernel
theorem dX3_sleepAll_16 : decode cX3_sleepAll 16 = .ok (.iconst 0, 1) := by decide +kernel
theorem dX3_sleepAll_17 : decode cX3_sleepAll 17 = .ok (.ireturn, 1) := by decide +kernel
theorem dX3_heardCriers_0 : decode cX3_heardCriers 0 = .ok (.aload_n 0, 1) := by decide +kernel
theorem dX3_heardCriers_1 : decode cX3_heardCriers 1 = .ok (.iconst 1, 1) := by decide +kernel
theorem dX3_heardCriers_2 : decode cX3_heardCriers 2 = .ok (.invokevirtual 65, 3) := by decide +kernel
theorem dX3_heardCriers_5 : decode cX3_heardCriers 5 = .ok (.aload_n 0, 1) := by decide +kernel
theorem dX3_heardCriers_6 : decode cX3_heardCriers 6 = .ok (.getfield 52, 3) := by decide +kernel
theorem dX3_heardCriers_9 : decode cX3_heardCriers 9 = .ok (.iconst (-1), 1) := by decide +kernel
theorem dX3_heardCriers_10 : decode cX3_heardCriers 10 = .ok (.ixor, 1) := by decide +kernel
theorem dX3_heardCriers_11 : decode cX3_heardCriers 11 = .ok (.iand, 1) := by decide +kernel
theorem dX3_heardCriers_12 : decode cX3_heardCriers 12 = .ok (.ireturn, 1) := by decide +kernel
theorem dX3_noiseAt_0 : decode cX3_noiseAt 0 = .ok (.iconst 0, 1) := by decide +kernel
theorem dX3_noiseAt_1 : decode cX3_noiseAt 1 = .ok (.istore_n 3, 1) := by decide +kernel
theorem dX3_noiseAt_2 : decode cX3_noiseAt 2 = .ok (.iconst 0, 1) := by decide +kernel
theorem dX3_noiseAt_3 : decode cX3_noiseAt 3 = .ok (.istore 4, 2) := by decide +kernel
theorem dX3_noiseAt_5 : decode cX3_noiseAt 5 = .ok (.iload 4, 2) := by decide +kernel
theorem dX3_noiseAt_7 : decode cX3_noiseAt 7 = .ok (.aload_n 0, 1) := by decide +kernel
theorem dX3_noiseAt_8 : decode cX3_noiseAt 8 = .ok (.getfield 36, 3) := by decide +kernel
theorem dX3_noiseAt_11 : decode cX3_noiseAt 11 = .ok (.if_icmp .ge 59, 3) := by decide +kernel
theorem dX3_noiseAt_14 : decode cX3_noiseAt 14 = .ok (.iload_n 2, 1) := by decide +kernel
theorem dX3_noiseAt_15 : decode cX3_noiseAt 15 = .ok (.ifCond .eq 55, 3) := by decide +kernel
theorem dX3_noiseAt_18 : decode cX3_noiseAt 18 = .ok (.iload 4, 2) := by decide +kernel
theorem dX3_noiseAt_20 : decode cX3_noiseAt 20 = .ok (.iload_n 1, 1) := by decide +kernel
theorem dX3_noiseAt_21 : decode cX3_noiseAt 21 = .ok (.if_icmp .eq 43, 3) := by decide +kernel
theorem dX3_noiseAt_24 : decode cX3_noiseAt 24 = .ok (.iload_n 2, 1) := by decide +kernel
theorem dX3_noiseAt_25 : decode cX3_noiseAt 25 = .ok (.iload 4, 2) := by decide +kernel
theorem dX3_noiseAt_27 : decode cX3_noiseAt 27 = .ok (.invokestatic 69, 3) := by decide +kernel
theorem dX3_noiseAt_30 : decode cX3_noiseAt 30 = .ok (.ifCond .eq 34, 3) := by decide +kernel
theorem dX3_noiseAt_33 : decode cX3_noiseAt 33 = .ok (.iload_n 3, 1) := by decide +kernel
theorem dX3_noiseAt_34 : decode cX3_noiseAt 34 = .ok (.iconst 0, 1) := by decide +kernel
theorem dX3_noiseAt_35 : decode cX3_noiseAt 35 = .ok (.aload_n 0, 1) := by decide +kernel
theorem dX3_noiseAt_36 : decode cX3_noiseAt 36 = .ok (.iload 4, 2) := by decide +kernel
theorem dX3_noiseAt_38 : decode cX3_noiseAt 38 = .ok (.invokevirtual 73, 3) := by decide +kernel
theorem dX3_noiseAt_41 : decode cX3_noiseAt 41 = .ok (.aload_n 0, 1) := by decide +kernel
theorem dX3_noiseAt_42 : decode cX3_noiseAt 42 = .ok (.getfield 24, 3) := by decide +kernel
theorem dX3_noiseAt_45 : decode cX3_noiseAt 45 = .ok (.iload 4, 2) := by decide +kernel
theorem dX3_noiseAt_47 : decode cX3_noiseAt 47 = .ok (.iaload, 1) := by decide +kernel
theorem dX3_noiseAt_48 : decode cX3_noiseAt 48 = .ok (.aload_n 0, 1) := by decide +kernel
theorem dX3_noiseAt_49 : decode cX3_noiseAt 49 = .ok (.getfield 24, 3) := by decide +kernel
theorem dX3_noiseAt_52 : decode cX3_noiseAt 52 = .ok (.iload_n 1, 1) := by decide +kernel
theorem dX3_noiseAt_53 : decode cX3_noiseAt 53 = .ok (.iaload, 1) := by decide +kernel
theorem dX3_noiseAt_54 : decode cX3_noiseAt 54 = .ok (.isub, 1) := by decide +kernel
theorem dX3_noiseAt_55 : decode cX3_noiseAt 55 = .ok (.invokestatic 76, 3) := by decide +kernel
theorem dX3_noiseAt_58 : decode cX3_noiseAt 58 = .ok (.isub, 1) := by decide +kernel
theorem dX3_noiseAt_59 : decode cX3_noiseAt 59 = .ok (.invokestatic 81, 3) := by decide +kernel
theorem dX3_noiseAt_62 : decode cX3_noiseAt 62 = .ok (.iadd, 1) := by decide +kernel
theorem dX3_noiseAt_63 : decode cX3_noiseAt 63 = .ok (.istore_n 3, 1) := by decide +kernel
theorem dX3_noiseAt_64 : decode cX3_noiseAt 64 = .ok (.iinc 4 1, 3) := by decide +kernel
theorem dX3_noiseAt_67 : decode cX3_noiseAt 67 = .ok (.goto (-62), 3) := by decide +kernel
theorem dX3_noiseAt_70 : decode cX3_noiseAt 70 = .ok (.iload_n 3, 1) := by decide +kernel
theorem dX3_noiseAt_71 : decode cX3_noiseAt 71 = .ok (.ireturn, 1) := by decide +kernel
theorem dX3_callsOf_0 : decode cX3_callsOf 0 = .ok (.aload_n 0, 1) := by decide +kernel
theorem dX3_callsOf_1 : decode cX3_callsOf 1 = .ok (.getfield 9, 3) := by decide +kernel
theorem dX3_callsOf_4 : decode cX3_callsOf 4 = .ok (.iload_n 1, 1) := by decide +kernel
theorem dX3_callsOf_5 : decode cX3_callsOf 5 = .ok (.iaload, 1) := by decide +kernel
theorem dX3_callsOf_6 : decode cX3_callsOf 6 = .ok (.iconst 2, 1) := by decide +kernel
theorem dX3_callsOf_7 : decode cX3_callsOf 7 = .ok (.if_icmp .ne 14, 3) := by decide +kernel
theorem dX3_callsOf_10 : decode cX3_callsOf 10 = .ok (.iconst 2, 1) := by decide +kernel
theorem dX3_callsOf_11 : decode cX3_callsOf 11 = .ok (.aload_n 0, 1) := by decide +kernel
theorem dX3_callsOf_12 : decode cX3_callsOf 12 = .ok (.getfield 21, 3) := by decide +kernel
theorem dX3_callsOf_15 : decode cX3_callsOf 15 = .ok (.iload_n 1, 1) := by decide +kernel
theorem dX3_callsOf_16 : decode cX3_callsOf 16 = .ok (.iaload, 1) := by decide +kernel
theorem dX3_callsOf_17 : decode cX3_callsOf 17 = .ok (.imul, 1) := by decide +kernel
theorem dX3_callsOf_18 : decode cX3_callsOf 18 = .ok (.goto 9, 3) := by decide +kernel
theorem dX3_callsOf_21 : decode cX3_callsOf 21 = .ok (.aload_n 0, 1) := by decide +kernel
theorem dX3_callsOf_22 : decode cX3_callsOf 22 = .ok (.getfield 21, 3) := by decide +kernel
theorem dX3_callsOf_25 : decode cX3_callsOf 25 = .ok (.iload_n 1, 1) := by decide +kernel
theorem dX3_callsOf_26 : decode cX3_callsOf 26 = .ok (.iaload, 1) := by decide +kernel
theorem dX3_callsOf_27 : decode cX3_callsOf 27 = .ok (.ireturn, 1) := by decide +kernel
theorem dX3_bearsOf_0 : decode cX3_bearsOf 0 = .ok (.aload_n 0, 1) := by decide +kernel
theorem dX3_bearsOf_1 : decode cX3_bearsOf 1 = .ok (.getfield 9, 3) := by decide +kernel
theorem dX3_bearsOf_4 : decode cX3_bearsOf 4 = .ok (.iload_n 1, 1) := by decide +kernel
theorem dX3_bearsOf_5 : decode cX3_bearsOf 5 = .ok (.iaload, 1) := by decide +kernel
theorem dX3_bearsOf_6 : decode cX3_bearsOf 6 = .ok (.iconst 4, 1) := by decide +kernel
theorem dX3_bearsOf_7 : decode cX3_bearsOf 7 = .ok (.if_icmp .eq 13, 3) := by decide +kernel
theorem dX3_bearsOf_10 : decode cX3_bearsOf 10 = .ok (.aload_n 0, 1) := by decide +kernel
theorem dX3_bearsOf_11 : decode cX3_bearsOf 11 = .ok (.getfield 9, 3) := by decide +kernel
theorem dX3_bearsOf_14 : decode cX3_bearsOf 14 = .ok (.iload_n 1, 1) := by decide +kernel
theorem dX3_bearsOf_15 : decode cX3_bearsOf 15 = .ok (.iaload, 1) := by decide +kernel
theorem dX3_bearsOf_16 : decode cX3_bearsOf 16 = .ok (.iconst 5, 1) := by decide +kernel
theorem dX3_bearsOf_17 : decode cX3_bearsOf 17 = .ok (.if_icmp .ne 14, 3) := by decide +kernel
theorem dX3_bearsOf_20 : decode cX3_bearsOf 20 = .ok (.iconst 2, 1) := by decide +kernel
theorem dX3_bearsOf_21 : decode cX3_bearsOf 21 = .ok (.aload_n 0, 1) := by decide +kernel
theorem dX3_bearsOf_22 : decode cX3_bearsOf 22 = .ok (.getfield 18, 3) := by decide +kernel
theorem dX3_bearsOf_25 : decode cX3_bearsOf 25 = .ok (.iload_n 1, 1) := by decide +kernel
theorem dX3_bearsOf_26 : decode cX3_bearsOf 26 = .ok (.iaload, 1) := by decide +kernel
theorem dX3_bearsOf_27 : decode cX3_bearsOf 27 = .ok (.imul, 1) := by decide +kernel
theorem dX3_bearsOf_28 : decode cX3_bearsOf 28 = .ok (.goto 9, 3) := by decide +kernel
theorem dX3_bearsOf_31 : decode cX3_bearsOf 31 = .ok (.aload_n 0, 1) := by decide +kernel
theorem dX3_bearsOf_32 : decode cX3_bearsOf 32 = .ok (.getfield 18, 3) := by decide +kernel
theorem dX3_bearsOf_35 : decode cX3_bearsOf 35 = .ok (.iload_n 1, 1) := by decide +kernel
theorem dX3_bearsOf_36 : decode cX3_bearsOf 36 = .ok (.iaload, 1) := by decide +kernel
theorem dX3_bearsOf_37 : decode cX3_bearsOf 37 = .ok (.ireturn, 1) := by decide +kernel
theorem dX3_whereLoudest_0 : decode cX3_whereLoudest 0 = .ok (.aload_n 0, 1) := by decide +kernel
theorem dX3_whereLoudest_1 : decode cX3_whereLoudest 1 = .ok (.invokevirtual 85, 3) := by decide +kernel
theorem dX3_whereLoudest_4 : decode cX3_whereLoudest 4 = .ok (.istore_n 1, 1) := by decide +kernel
theorem dX3_whereLoudest_5 : decode cX3_whereLoudest 5 = .ok (.iconst 0, 1) := by decide +kernel
theorem dX3_whereLoudest_6 : decode cX3_whereLoudest 6 = .ok (.istore_n 2, 1) := by decide +kernel
theorem dX3_whereLoudest_7 : decode cX3_whereLoudest 7 = .ok (.iconst 1, 1) := by decide +kernel
theorem dX3_whereLoudest_8 : decode cX3_whereLoudest 8 = .ok (.istore_n 3, 1) := by decide +kernel
theorem dX3_whereLoudest_9 : decode cX3_whereLoudest 9 = .ok (.iload_n 3, 1) := by decide +kernel
theorem dX3_whereLoudest_10 : decode cX3_whereLoudest 10 = .ok (.aload_n 0, 1) := by decide +kernel
theorem dX3_whereLoudest_11 : decode cX3_whereLoudest 11 = .ok (.getfield 36, 3) := by decide +kernel
theorem dX3_whereLoudest_14 : decode cX3_whereLoudest 14 = .ok (.if_icmp .ge 26, 3) := by decide +kernel
theorem dX3_whereLoudest_17 : decode cX3_whereLoudest 17 = .ok (.aload_n 0, 1) := by decide +kernel
theorem dX3_whereLoudest_18 : decode cX3_whereLoudest 18 = .ok (.iload_n 3, 1) := by decide +kernel
theorem dX3_whereLoudest_19 : decode cX3_whereLoudest 19 = .ok (.iload_n 1, 1) := by decide +kernel
theorem dX3_whereLoudest_20 : decode cX3_whereLoudest 20 = .ok (.invokevirtual 89, 3) := by decide +kernel
theorem dX3_whereLoudest_23 : decode cX3_whereLoudest 23 = .ok (.aload_n 0, 1) := by decide +kernel
theorem dX3_whereLoudest_24 : decode cX3_whereLoudest 24 = .ok (.iload_n 2, 1) := by decide +kernel
theorem dX3_whereLoudest_25 : decode cX3_whereLoudest 25 = .ok (.iload_n 1, 1) := by decide +kernel
theorem dX3_whereLoudest_26 : decode cX3_whereLoudest 26 = .ok (.invokevirtual 89, 3) := by decide +kernel
theorem dX3_whereLoudest_29 : decode cX3_whereLoudest 29 = .ok (.if_icmp .le 5, 3) := by decide +kernel
theorem dX3_whereLoudest_32 : decode cX3_whereLoudest 32 = .ok (.iload_n 3, 1) := by decide +kernel
theorem dX3_whereLoudest_33 : decode cX3_whereLoudest 33 = .ok (.istore_n 2, 1) := by decide +kernel
theorem dX3_whereLoudest_34 : decode cX3_whereLoudest 34 = .ok (.iinc 3 1, 3) := by decide +kernel
theorem dX3_whereLoudest_37 : decode cX3_whereLoudest 37 = .ok (.goto (-28), 3) := by decide +kernel
theorem dX3_whereLoudest_40 : decode cX3_whereLoudest 40 = .ok (.iload_n 2, 1) := by decide +kernel
theorem dX3_whereLoudest_41 : decode cX3_whereLoudest 41 = .ok (.ireturn, 1) := by decide +kernel
theorem dX3_loudestUnheeded_0 : decode cX3_loudestUnheeded 0 = .ok (.bipush 99, 2) := by decide +kernel
theorem dX3_loudestUnheeded_2 : decode cX3_loudestUnheeded 2 = .ok (.istore_n 1, 1) := by decide +kernel
theorem dX3_loudestUnheeded_3 : decode cX3_loudestUnheeded 3 = .ok (.iconst 0, 1) := by decide +kernel
theorem dX3_loudestUnheeded_4 : decode cX3_loudestUnheeded 4 = .ok (.istore_n 2, 1) := by decide +kernel
theorem dX3_loudestUnheeded_5 : decode cX3_loudestUnheeded 5 = .ok (.iload_n 2, 1) := by decide +kernel
theorem dX3_loudestUnheeded_6 : decode cX3_loudestUnheeded 6 = .ok (.aload_n 0, 1) := by decide +kernel
theorem dX3_loudestUnheeded_7 : decode cX3_loudestUnheeded 7 = .ok (.getfield 36, 3) := by decide +kernel
theorem dX3_loudestUnheeded_10 : decode cX3_loudestUnheeded 10 = .ok (.if_icmp .ge 40, 3) := by decide +kernel
theorem dX3_loudestUnheeded_13 : decode cX3_loudestUnheeded 13 = .ok (.aload_n 0, 1) := by decide +kernel
theorem dX3_loudestUnheeded_14 : decode cX3_loudestUnheeded 14 = .ok (.getfield 27, 3) := by decide +kernel
theorem dX3_loudestUnheeded_17 : decode cX3_loudestUnheeded 17 = .ok (.iload_n 2, 1) := by decide +kernel
theorem dX3_loudestUnheeded_18 : decode cX3_loudestUnheeded 18 = .ok (.iaload, 1) := by decide +kernel
theorem dX3_loudestUnheeded_19 : decode cX3_loudestUnheeded 19 = .ok (.iconst 2, 1) := by decide +kernel
theorem dX3_loudestUnheeded_20 : decode cX3_loudestUnheeded 20 = .ok (.if_icmp .ne 24, 3) := by decide +kernel
theorem dX3_loudestUnheeded_23 : decode cX3_loudestUnheeded 23 = .ok (.aload_n 0, 1) := by decide +kernel
theorem dX3_loudestUnheeded_24 : decode cX3_loudestUnheeded 24 = .ok (.getfield 52, 3) := by decide +kernel
theorem dX3_loudestUnheeded_27 : decode cX3_loudestUnheeded 27 = .ok (.iload_n 2, 1) := by decide +kernel
theorem dX3_loudestUnheeded_28 : decode cX3_loudestUnheeded 28 = .ok (.invokestatic 69, 3) := by decide +kernel
theorem dX3_loudestUnheeded_31 : decode cX3_loudestUnheeded 31 = .ok (.ifCond .ne 13, 3) := by decide +kernel
theorem dX3_loudestUnheeded_34 : decode cX3_loudestUnheeded 34 = .ok (.iload_n 1, 1) := by decide +kernel
theorem dX3_loudestUnheeded_35 : decode cX3_loudestUnheeded 35 = .ok (.aload_n 0, 1) := by decide +kernel
theorem dX3_loudestUnheeded_36 : decode cX3_loudestUnheeded 36 = .ok (.iload_n 2, 1) := by decide +kernel
theorem dX3_loudestUnheeded_37 : decode cX3_loudestUnheeded 37 = .ok (.invokevirtual 92, 3) := by decide +kernel
theorem dX3_loudestUnheeded_40 : decode cX3_loudestUnheeded 40 = .ok (.invokestatic 95, 3) := by decide +kernel
theorem dX3_loudestUnheeded_43 : decode cX3_loudestUnheeded 43 = .ok (.istore_n 1, 1) := by decide +kernel
theorem dX3_loudestUnheeded_44 : decode cX3_loudestUnheeded 44 = .ok (.iinc 2 1, 3) := by decide +kernel
theorem dX3_loudestUnheeded_47 : decode cX3_loudestUnheeded 47 = .ok (.goto (-42), 3) := by decide +kernel
theorem dX3_loudestUnheeded_50 : decode cX3_loudestUnheeded 50 = .ok (.iload_n 1, 1) := by decide +kernel
theorem dX3_loudestUnheeded_51 : decode cX3_loudestUnheeded 51 = .ok (.ireturn, 1) := by decide +kernel
theorem dX3_lieDown_0 : decode cX3_lieDown 0 = .ok (.aload_n 0, 1) := by decide +kernel
theorem dX3_lieDown_1 : decode cX3_lieDown 1 = .ok (.getfield 27, 3) := by decide +kernel
theorem dX3_lieDown_4 : decode cX3_lieDown 4 = .ok (.iload_n 1, 1) := by decide +kernel
theorem dX3_lieDown_5 : decode cX3_lieDown 5 = .ok (.iconst 0, 1) := by decide +kernel
theorem dX3_lieDown_6 : decode cX3_lieDown 6 = .ok (.iastore, 1) := by decide +kernel
theorem dX3_lieDown_7 : decode cX3_lieDown 7 = .ok (.aload_n 0, 1) := by decide +kernel
theorem dX3_lieDown_8 : decode cX3_lieDown 8 = .ok (.getfield 30, 3) := by decide +kernel
theorem dX3_lieDown_11 : decode cX3_lieDown 11 = .ok (.iload_n 1, 1) := by decide +kernel
theorem dX3_lieDown_12 : decode cX3_lieDown 12 = .ok (.iconst 0, 1) := by decide +kernel
theorem dX3_lieDown_13 : decode cX3_lieDown 13 = .ok (.iastore, 1) := by decide +kernel
theorem dX3_lieDown_14 : decode cX3_lieDown 14 = .ok (.aload_n 0, 1) := by decide +kernel
theorem dX3_lieDown_15 : decode cX3_lieDown 15 = .ok (.getfield 33, 3) := by decide +kernel
theorem dX3_lieDown_18 : decode cX3_lieDown 18 = .ok (.iload_n 1, 1) := by decide +kernel
theorem dX3_lieDown_19 : decode cX3_lieDown 19 = .ok (.iconst 0, 1) := by decide +kernel
theorem dX3_lieDown_20 : decode cX3_lieDown 20 = .ok (.iastore, 1) := by decide +kernel
theorem dX3_lieDown_21 : decode cX3_lieDown 21 = .ok (.return_, 1) := by decide +kernel
theorem dX3_cry_0 : decode cX3_cry 0 = .ok (.aload_n 0, 1) := by decide +kernel
theorem dX3_cry_1 : decode cX3_cry 1 = .ok (.getfield 27, 3) := by decide +kernel
theorem dX3_cry_4 : decode cX3_cry 4 = .ok (.iload_n 1, 1) := by decide +kernel
theorem dX3_cry_5 : decode cX3_cry 5 = .ok (.iconst 1, 1) := by decide +kernel
theorem dX3_cry_6 : decode cX3_cry 6 = .ok (.iastore, 1) := by decide +kernel
theorem dX3_cry_7 : decode cX3_cry 7 = .ok (.aload_n 0, 1) := by decide +kernel
theorem dX3_cry_8 : decode cX3_cry 8 = .ok (.getfield 30, 3) := by decide +kernel
theorem dX3_cry_11 : decode cX3_cry 11 = .ok (.iload_n 1, 1) := by decide +kernel
theorem dX3_cry_12 : decode cX3_cry 12 = .ok (.aload_n 0, 1) := by decide +kernel
theorem dX3_cry_13 : decode cX3_cry 13 = .ok (.getfield 43, 3) := by decide +kernel
theorem dX3_cry_16 : decode cX3_cry 16 = .ok (.iastore, 1) := by decide +kernel
theorem dX3_cry_17 : decode cX3_cry 17 = .ok (.aload_n 0, 1) := by decide +kernel
theorem dX3_cry_18 : decode cX3_cry 18 = .ok (.getfield 33, 3) := by decide +kernel
theorem dX3_cry_21 : decode cX3_cry 21 = .ok (.iload_n 1, 1) := by decide +kernel
theorem dX3_cry_22 : decode cX3_cry 22 = .ok (.iconst 0, 1) := by decide +kernel
theorem dX3_cry_23 : decode cX3_cry 23 = .ok (.iastore, 1) := by decide +kernel
theorem dX3_cry_24 : decode cX3_cry 24 = .ok (.return_, 1) := by decide +kernel
theorem dX3_wake_0 : decode cX3_wake 0 = .ok (.aload_n 0, 1) := by decide +kernel
theorem dX3_wake_1 : decode cX3_wake 1 = .ok (.getfield 9, 3) := by decide +kernel
theorem dX3_wake_4 : decode cX3_wake 4 = .ok (.iload_n 1, 1) := by decide +kernel
theorem dX3_wake_5 : decode cX3_wake 5 = .ok (.iaload, 1) := by decide +kernel
theorem dX3_wake_6 : decode cX3_wake 6 = .ok (.iconst 5, 1) := by decide +kernel
theorem dX3_wake_7 : decode cX3_wake 7 = .ok (.if_icmp .ne 11, 3) := by decide +kernel
theorem dX3_wake_10 : decode cX3_wake 10 = .ok (.aload_n 0, 1) := by decide +kernel
theorem dX3_wake_11 : decode cX3_wake 11 = .ok (.iload_n 1, 1) := by decide +kernel
theorem dX3_wake_12 : decode cX3_wake 12 = .ok (.invokevirtual 55, 3) := by decide +kernel
theorem dX3_wake_15 : decode cX3_wake 15 = .ok (.goto 8, 3) := by decide +kernel
theorem dX3_wake_18 : decode cX3_wake 18 = .ok (.aload_n 0, 1) := by decide +kernel
theorem dX3_wake_19 : decode cX3_wake 19 = .ok (.iload_n 1, 1) := by decide +kernel
theorem dX3_wake_20 : decode cX3_wake 20 = .ok (.invokevirtual 98, 3) := by decide +kernel
theorem dX3_wake_23 : decode cX3_wake 23 = .ok (.return_, 1) := by decide +kernel
theorem dX3_swapCots_0 : decode cX3_swapCots 0 = .ok (.aload_n 0, 1) := by decide +kernel
theorem dX3_swapCots_1 : decode cX3_swapCots 1 = .ok (.getfield 24, 3) := by decide +kernel
theorem dX3_swapCots_4 : decode cX3_swapCots 4 = .ok (.iload_n 1, 1) := by decide +kernel
theorem dX3_swapCots_5 : decode cX3_swapCots 5 = .ok (.iaload, 1) := by decide +kernel
theorem dX3_swapCots_6 : decode cX3_swapCots 6 = .ok (.istore_n 3, 1) := by decide +kernel
theorem dX3_swapCots_7 : decode cX3_swapCots 7 = .ok (.aload_n 0, 1) := by decide +kernel
theorem dX3_swapCots_8 : decode cX3_swapCots 8 = .ok (.getfield 24, 3) := by decide +kernel
theorem dX3_swapCots_11 : decode cX3_swapCots 11 = .ok (.iload_n 1, 1) := by decide +kernel
theorem dX3_swapCots_12 : decode cX3_swapCots 12 = .ok (.aload_n 0, 1) := by decide +kernel
theorem dX3_swapCots_13 : decode cX3_swapCots 13 = .ok (.getfield 24, 3) := by decide +kernel
theorem dX3_swapCots_16 : decode cX3_swapCots 16 = .ok (.iload_n 2, 1) := by decide +kernel
theorem dX3_swapCots_17 : decode cX3_swapCots 17 = .ok (.iaload, 1) := by decide +kernel
theorem dX3_swapCots_18 : decode cX3_swapCots 18 = .ok (.iastore, 1) := by decide +kernel
theorem dX3_swapCots_19 : decode cX3_swapCots 19 = .ok (.aload_n 0, 1) := by decide +kernel
theorem dX3_swapCots_20 : decode cX3_swapCots 20 = .ok (.getfield 24, 3) := by decide +kernel
theorem dX3_swapCots_23 : decode cX3_swapCots 23 = .ok (.iload_n 2, 1) := by decide +kernel
theorem dX3_swapCots_24 : decode cX3_swapCots 24 = .ok (.iload_n 3, 1) := by decide +kernel
theorem dX3_swapCots_25 : decode cX3_swapCots 25 = .ok (.iastore, 1) := by decide +kernel
theorem dX3_swapCots_26 : decode cX3_swapCots 26 = .ok (.return_, 1) := by decide +kernel
theorem dX3_passLorry_0 : decode cX3_passLorry 0 = .ok (.iconst 0, 1) := by decide +kernel
theorem dX3_passLorry_1 : decode cX3_passLorry 1 = .ok (.istore_n 2, 1) := by decide +kernel
theorem dX3_passLorry_2 : decode cX3_passLorry 2 = .ok (.iconst 0, 1) := by decide +kernel
theorem dX3_passLorry_3 : decode cX3_passLorry 3 = .ok (.istore_n 3, 1) := by decide +kernel
theorem dX3_passLorry_4 : decode cX3_passLorry 4 = .ok (.iload_n 3, 1) := by decide +kernel
theorem dX3_passLorry_5 : decode cX3_passLorry 5 = .ok (.aload_n 0, 1) := by decide +kernel
theorem dX3_passLorry_6 : decode cX3_passLorry 6 = .ok (.getfield 36, 3) := by decide +kernel
theorem dX3_passLorry_9 : decode cX3_passLorry 9 = .ok (.if_icmp .ge 47, 3) := by decide +kernel
theorem dX3_passLorry_12 : decode cX3_passLorry 12 = .ok (.aload_n 0, 1) := by decide +kernel
theorem dX3_passLorry_13 : decode cX3_passLorry 13 = .ok (.getfield 27, 3) := by decide +kernel
theorem dX3_passLorry_16 : decode cX3_passLorry 16 = .ok (.iload_n 3, 1) := by decide +kernel
theorem dX3_passLorry_17 : decode cX3_passLorry 17 = .ok (.iaload, 1) := by decide +kernel
theorem dX3_passLorry_18 : decode cX3_passLorry 18 = .ok (.iconst 2, 1) := by decide +kernel
theorem dX3_passLorry_19 : decode cX3_passLorry 19 = .ok (.if_icmp .ne 31, 3) := by decide +kernel
theorem dX3_passLorry_22 : decode cX3_passLorry 22 = .ok (.aload_n 0, 1) := by decide +kernel
theorem dX3_passLorry_23 : decode cX3_passLorry 23 = .ok (.getfield 52, 3) := by decide +kernel
theorem dX3_passLorry_26 : decode cX3_passLorry 26 = .ok (.iload_n 3, 1) := by decide +kernel
theorem dX3_passLorry_27 : decode cX3_passLorry 27 = .ok (.invokestatic 69, 3) := by decide +kernel
theorem dX3_passLorry_30 : decode cX3_passLorry 30 = .ok (.ifCond .ne 20, 3) := by decide +kernel
theorem dX3_passLorry_33 : decode cX3_passLorry 33 = .ok (.iload_n 1, 1) := by decide +kernel
theorem dX3_passLorry_34 : decode cX3_passLorry 34 = .ok (.aload_n 0, 1) := by decide +kernel
theorem dX3_passLorry_35 : decode cX3_passLorry 35 = .ok (.iload_n 3, 1) := by decide +kernel
theorem dX3_passLorry_36 : decode cX3_passLorry 36 = .ok (.invokevirtual 92, 3) := by decide +kernel
theorem dX3_passLorry_39 : decode cX3_passLorry 39 = .ok (.if_icmp .le 11, 3) := by decide +kernel
theorem dX3_passLorry_42 : decode cX3_passLorry 42 = .ok (.aload_n 0, 1) := by decide +kernel
theorem dX3_passLorry_43 : decode cX3_passLorry 43 = .ok (.iload_n 3, 1) := by decide +kernel
theorem dX3_passLorry_44 : decode cX3_passLorry 44 = .ok (.invokevirtual 101, 3) := by decide +kernel
theorem dX3_passLorry_47 : decode cX3_passLorry 47 = .ok (.iinc 2 1, 3) := by decide +kernel
theorem dX3_passLorry_50 : decode cX3_passLorry 50 = .ok (.iinc 3 1, 3) := by decide +kernel
theorem dX3_passLorry_53 : decode cX3_passLorry 53 = .ok (.goto (-49), 3) := by decide +kernel
theorem dX3_passLorry_56 : decode cX3_passLorry 56 = .ok (.iload_n 2, 1) := by decide +kernel
theorem dX3_passLorry_57 : decode cX3_passLorry 57 = .ok (.ireturn, 1) := by decide +kernel
theorem dX3_passMinutes_0 : decode cX3_passMinutes 0 = .ok (.iconst 0, 1) := by decide +kernel
theorem dX3_passMinutes_1 : decode cX3_passMinutes 1 = .ok (.istore_n 2, 1) := by decide +kernel
theorem dX3_passMinutes_2 : decode cX3_passMinutes 2 = .ok (.iload_n 2, 1) := by decide +kernel
theorem dX3_passMinutes_3 : decode cX3_passMinutes 3 = .ok (.iload_n 1, 1) := by decide +kernel
theorem dX3_passMinutes_4 : decode cX3_passMinutes 4 = .ok (.if_icmp .ge 31, 3) := by decide +kernel
theorem dX3_passMinutes_7 : decode cX3_passMinutes 7 = .ok (.aload_n 0, 1) := by decide +kernel
theorem dX3_passMinutes_8 : decode cX3_passMinutes 8 = .ok (.invokevirtual 104, 3) := by decide +kernel
theorem dX3_passMinutes_11 : decode cX3_passMinutes 11 = .ok (.ifCond .ne 18, 3) := by decide +kernel
theorem dX3_passMinutes_14 : decode cX3_passMinutes 14 = .ok (.aload_n 0, 1) := by decide +kernel
theorem dX3_passMinutes_15 : decode cX3_passMinutes 15 = .ok (.dup, 1) := by decide +kernel
theorem dX3_passMinutes_16 : decode cX3_passMinutes 16 = .ok (.getfield 46, 3) := by decide +kernel
theorem dX3_passMinutes_19 : decode cX3_passMinutes 19 = .ok (.iload_n 1, 1) := by decide +kernel
theorem dX3_passMinutes_20 : decode cX3_passMinutes 20 = .ok (.iconst 1, 1) := by decide +kernel
theorem dX3_passMinutes_21 : decode cX3_passMinutes 21 = .ok (.isub, 1) := by decide +kernel
theorem dX3_passMinutes_22 : decode cX3_passMinutes 22 = .ok (.iload_n 2, 1) := by decide +kernel
theorem dX3_passMinutes_23 : decode cX3_passMinutes 23 = .ok (.isub, 1) := by decide +kernel
theorem dX3_passMinutes_24 : decode cX3_passMinutes 24 = .ok (.iadd, 1) := by decide +kernel
theorem dX3_passMinutes_25 : decode cX3_passMinutes 25 = .ok (.putfield 46, 3) := by decide +kernel
theorem dX3_passMinutes_28 : decode cX3_passMinutes 28 = .ok (.return_, 1) := by decide +kernel
theorem dX3_passMinutes_29 : decode cX3_passMinutes 29 = .ok (.iinc 2 1, 3) := by decide +kernel
theorem dX3_passMinutes_32 : decode cX3_passMinutes 32 = .ok (.goto (-30), 3) := by decide +kernel
theorem dX3_passMinutes_35 : decode cX3_passMinutes 35 = .ok (.return_, 1) := by decide +kernel
theorem dX3_passMinute_0 : decode cX3_passMinute 0 = .ok (.aload_n 0, 1) := by decide +kernel
theorem dX3_passMinute_1 : decode cX3_passMinute 1 = .ok (.invokevirtual 85, 3) := by decide +kernel
theorem dX3_passMinute_4 : decode cX3_passMinute 4 = .ok (.istore_n 1, 1) := by decide +kernel
theorem dX3_passMinute_5 : decode cX3_passMinute 5 = .ok (.iconst 0, 1) := by decide +kernel
theorem dX3_passMinute_6 : decode cX3_passMinute 6 = .ok (.istore_n 2, 1) := by decide +kernel
theorem dX3_passMinute_7 : decode cX3_passMinute 7 = .ok (.iconst 0, 1) := by decide +kernel
theorem dX3_passMinute_8 : decode cX3_passMinute 8 = .ok (.istore_n 3, 1) := by decide +kernel
theorem dX3_passMinute_9 : decode cX3_passMinute 9 = .ok (.iload_n 3, 1) := by decide +kernel
theorem dX3_passMinute_10 : decode cX3_passMinute 10 = .ok (.aload_n 0, 1) := by decide +kernel
theorem dX3_passMinute_11 : decode cX3_passMinute 11 = .ok (.getfield 36, 3) := by decide +kernel
theorem dX3_passMinute_14 : decode cX3_passMinute 14 = .ok (.if_icmp .ge 69, 3) := by decide +kernel
theorem dX3_passMinute_17 : decode cX3_passMinute 17 = .ok (.aload_n 0, 1) := by decide +kernel
theorem dX3_passMinute_18 : decode cX3_passMinute 18 = .ok (.getfield 27, 3) := by decide +kernel
theorem dX3_passMinute_21 : decode cX3_passMinute 21 = .ok (.iload_n 3, 1) := by decide +kernel
theorem dX3_passMinute_22 : decode cX3_passMinute 22 = .ok (.iaload, 1) := by decide +kernel
theorem dX3_passMinute_23 : decode cX3_passMinute 23 = .ok (.iconst 1, 1) := by decide +kernel
theorem dX3_passMinute_24 : decode cX3_passMinute 24 = .ok (.if_icmp .ne 13, 3) := by decide +kernel
theorem dX3_passMinute_27 : decode cX3_passMinute 27 = .ok (.aload_n 0, 1) := by decide +kernel
theorem dX3_passMinute_28 : decode cX3_passMinute 28 = .ok (.iload_n 3, 1) := by decide +kernel
theorem dX3_passMinute_29 : decode cX3_passMinute 29 = .ok (.invokevirtual 108, 3) := by decide +kernel
theorem dX3_passMinute_32 : decode cX3_passMinute 32 = .ok (.iconst 1, 1) := by decide +kernel
theorem dX3_passMinute_33 : decode cX3_passMinute 33 = .ok (.istore_n 2, 1) := by decide +kernel
theorem dX3_passMinute_34 : decode cX3_passMinute 34 = .ok (.goto 43, 3) := by decide +kernel
theorem dX3_passMinute_37 : decode cX3_passMinute 37 = .ok (.aload_n 0, 1) := by decide +kernel
theorem dX3_passMinute_38 : decode cX3_passMinute 38 = .ok (.getfield 52, 3) := by decide +kernel
theorem dX3_passMinute_41 : decode cX3_passMinute 41 = .ok (.iload_n 3, 1) := by decide +kernel
theorem dX3_passMinute_42 : decode cX3_passMinute 42 = .ok (.invokestatic 69, 3) := by decide +kernel
theorem dX3_passMinute_45 : decode cX3_passMinute 45 = .ok (.ifCond .ne 32, 3) := by decide +kernel
theorem dX3_passMinute_48 : decode cX3_passMinute 48 = .ok (.aload_n 0, 1) := by decide +kernel
theorem dX3_passMinute_49 : decode cX3_passMinute 49 = .ok (.iload_n 3, 1) := by decide +kernel
theorem dX3_passMinute_50 : decode cX3_passMinute 50 = .ok (.aload_n 0, 1) := by decide +kernel
theorem dX3_passMinute_51 : decode cX3_passMinute 51 = .ok (.iload_n 3, 1) := by decide +kernel
theorem dX3_passMinute_52 : decode cX3_passMinute 52 = .ok (.iload_n 1, 1) := by decide +kernel
theorem dX3_passMinute_53 : decode cX3_passMinute 53 = .ok (.invokevirtual 89, 3) := by decide +kernel
theorem dX3_passMinute_56 : decode cX3_passMinute 56 = .ok (.aload_n 0, 1) := by decide +kernel
theorem dX3_passMinute_57 : decode cX3_passMinute 57 = .ok (.iload_n 3, 1) := by decide +kernel
theorem dX3_passMinute_58 : decode cX3_passMinute 58 = .ok (.invokevirtual 92, 3) := by decide +kernel
theorem dX3_passMinute_61 : decode cX3_passMinute 61 = .ok (.if_icmp .le 7, 3) := by decide +kernel
theorem dX3_passMinute_64 : decode cX3_passMinute 64 = .ok (.iconst 1, 1) := by decide +kernel
theorem dX3_passMinute_65 : decode cX3_passMinute 65 = .ok (.goto 4, 3) := by decide +kernel
theorem dX3_passMinute_68 : decode cX3_passMinute 68 = .ok (.iconst 0, 1) := by decide +kernel
theorem dX3_passMinute_69 : decode cX3_passMinute 69 = .ok (.invokevirtual 111, 3) := by decide +kernel
theorem dX3_passMinute_72 : decode cX3_passMinute 72 = .ok (.ifCond .eq 5, 3) := by decide +kernel
theorem dX3_passMinute_75 : decode cX3_passMinute 75 = .ok (.iconst 1, 1) := by decide +kernel
theorem dX3_passMinute_76 : decode cX3_passMinute 76 = .ok (.istore_n 2, 1) := by decide +kernel
theorem dX3_passMinute_77 : decode cX3_passMinute 77 = .ok (.iinc 3 1, 3) := by decide +kernel
theorem dX3_passMinute_80 : decode cX3_passMinute 80 = .ok (.goto (-71), 3) := by decide +kernel
theorem dX3_passMinute_83 : decode cX3_passMinute 83 = .ok (.aload_n 0, 1) := by decide +kernel
theorem dX3_passMinute_84 : decode cX3_passMinute 84 = .ok (.dup, 1) := by decide +kernel
theorem dX3_passMinute_85 : decode cX3_passMinute 85 = .ok (.getfield 46, 3) := by decide +kernel
theorem dX3_passMinute_88 : decode cX3_passMinute 88 = .ok (.iconst 1, 1) := by decide +kernel
theorem dX3_passMinute_89 : decode cX3_passMinute 89 = .ok (.iadd, 1) := by decide +kernel
theorem dX3_passMinute_90 : decode cX3_passMinute 90 = .ok (.putfield 46, 3) := by decide +kernel
theorem dX3_passMinute_93 : decode cX3_passMinute 93 = .ok (.iload_n 2, 1) := by decide +kernel
theorem dX3_passMinute_94 : decode cX3_passMinute 94 = .ok (.ireturn, 1) := by decide +kernel
theorem dX3_calmDown_0 : decode cX3_calmDown 0 = .ok (.aload_n 0, 1) := by decide +kernel
theorem dX3_calmDown_1 : decode cX3_calmDown 1 = .ok (.getfield 30, 3) := by decide +kernel
theorem dX3_calmDown_4 : decode cX3_calmDown 4 = .ok (.iload_n 1, 1) := by decide +kernel
theorem dX3_calmDown_5 : decode cX3_calmDown 5 = .ok (.dup2, 1) := by decide +kernel
theorem dX3_calmDown_6 : decode cX3_calmDown 6 = .ok (.iaload, 1) := by decide +kernel
theorem dX3_calmDown_7 : decode cX3_calmDown 7 = .ok (.aload_n 0, 1) := by decide +kernel
theorem dX3_calmDown_8 : decode cX3_calmDown 8 = .ok (.getfield 49, 3) := by decide +kernel
theorem dX3_calmDown_11 : decode cX3_calmDown 11 = .ok (.iload_n 1, 1) := by decide +kernel
theorem dX3_calmDown_12 : decode cX3_calmDown 12 = .ok (.invokestatic 69, 3) := by decide +kernel
theorem dX3_calmDown_15 : decode cX3_calmDown 15 = .ok (.ifCond .eq 18, 3) := by decide +kernel
theorem dX3_calmDown_18 : decode cX3_calmDown 18 = .ok (.aload_n 0, 1) := by decide +kernel
theorem dX3_calmDown_19 : decode cX3_calmDown 19 = .ok (.getfield 52, 3) := by decide +kernel
theorem dX3_calmDown_22 : decode cX3_calmDown 22 = .ok (.iload_n 1, 1) := by decide +kernel
theorem dX3_calmDown_23 : decode cX3_calmDown 23 = .ok (.invokestatic 69, 3) := by decide +kernel
theorem dX3_calmDown_26 : decode cX3_calmDown 26 = .ok (.ifCond .ne 7, 3) := by decide +kernel
theorem dX3_calmDown_29 : decode cX3_calmDown 29 = .ok (.iconst 2, 1) := by decide +kernel
theorem dX3_calmDown_30 : decode cX3_calmDown 30 = .ok (.goto 4, 3) := by decide +kernel
theorem dX3_calmDown_33 : decode cX3_calmDown 33 = .ok (.iconst 1, 1) := by decide +kernel
theorem dX3_calmDown_34 : decode cX3_calmDown 34 = .ok (.isub, 1) := by decide +kernel
theorem dX3_calmDown_35 : decode cX3_calmDown 35 = .ok (.iastore, 1) := by decide +kernel
theorem dX3_calmDown_36 : decode cX3_calmDown 36 = .ok (.aload_n 0, 1) := by decide +kernel
theorem dX3_calmDown_37 : decode cX3_calmDown 37 = .ok (.getfield 30, 3) := by decide +kernel
theorem dX3_calmDown_40 : decode cX3_calmDown 40 = .ok (.iload_n 1, 1) := by decide +kernel
theorem dX3_calmDown_41 : decode cX3_calmDown 41 = .ok (.iaload, 1) := by decide +kernel
theorem dX3_calmDown_42 : decode cX3_calmDown 42 = .ok (.ifCond .gt 8, 3) := by decide +kernel
theorem dX3_calmDown_45 : decode cX3_calmDown 45 = .ok (.aload_n 0, 1) := by decide +kernel
theorem dX3_calmDown_46 : decode cX3_calmDown 46 = .ok (.iload_n 1, 1) := by decide +kernel
theorem dX3_calmDown_47 : decode cX3_calmDown 47 = .ok (.invokevirtual 55, 3) := by decide +kernel
theorem dX3_calmDown_50 : decode cX3_calmDown 50 = .ok (.return_, 1) := by decide +kernel
theorem dX3_listen_0 : decode cX3_listen 0 = .ok (.aload_n 0, 1) := by decide +kernel
theorem dX3_listen_1 : decode cX3_listen 1 = .ok (.getfield 27, 3) := by decide +kernel
theorem dX3_listen_4 : decode cX3_listen 4 = .ok (.iload_n 1, 1) := by decide +kernel
theorem dX3_listen_5 : decode cX3_listen 5 = .ok (.iaload, 1) := by decide +kernel
theorem dX3_listen_6 : decode cX3_listen 6 = .ok (.iconst 2, 1) := by decide +kernel
theorem dX3_listen_7 : decode cX3_listen 7 = .ok (.if_icmp .ne 14, 3) := by decide +kernel
theorem dX3_listen_10 : decode cX3_listen 10 = .ok (.iload_n 2, 1) := by decide +kernel
theorem dX3_listen_11 : decode cX3_listen 11 = .ok (.ifCond .eq 8, 3) := by decide +kernel
theorem dX3_listen_14 : decode cX3_listen 14 = .ok (.aload_n 0, 1) := by decide +kernel
theorem dX3_listen_15 : decode cX3_listen 15 = .ok (.iload_n 1, 1) := by decide +kernel
theorem dX3_listen_16 : decode cX3_listen 16 = .ok (.invokevirtual 101, 3) := by decide +kernel
theorem dX3_listen_19 : decode cX3_listen 19 = .ok (.iload_n 2, 1) := by decide +kernel
theorem dX3_listen_20 : decode cX3_listen 20 = .ok (.ireturn, 1) := by decide +kernel
theorem dX3_listen_21 : decode cX3_listen 21 = .ok (.aload_n 0, 1) := by decide +kernel
theorem dX3_listen_22 : decode cX3_listen 22 = .ok (.getfield 33, 3) := by decide +kernel
theorem dX3_listen_25 : decode cX3_listen 25 = .ok (.iload_n 1, 1) := by decide +kernel
theorem dX3_listen_26 : decode cX3_listen 26 = .ok (.iaload, 1) := by decide +kernel
theorem dX3_listen_27 : decode cX3_listen 27 = .ok (.istore_n 3, 1) := by decide +kernel
theorem dX3_listen_28 : decode cX3_listen 28 = .ok (.aload_n 0, 1) := by decide +kernel
theorem dX3_listen_29 : decode cX3_listen 29 = .ok (.getfield 33, 3) := by decide +kernel
theorem dX3_listen_32 : decode cX3_listen 32 = .ok (.iload_n 1, 1) := by decide +kernel
theorem dX3_listen_33 : decode cX3_listen 33 = .ok (.iload_n 2, 1) := by decide +kernel
theorem dX3_listen_34 : decode cX3_listen 34 = .ok (.ifCond .eq 7, 3) := by decide +kernel
theorem dX3_listen_37 : decode cX3_listen 37 = .ok (.iconst 0, 1) := by decide +kernel
theorem dX3_listen_38 : decode cX3_listen 38 = .ok (.goto 10, 3) := by decide +kernel
theorem dX3_listen_41 : decode cX3_listen 41 = .ok (.iload_n 3, 1) := by decide +kernel
theorem dX3_listen_42 : decode cX3_listen 42 = .ok (.aload_n 0, 1) := by decide +kernel
theorem dX3_listen_43 : decode cX3_listen 43 = .ok (.iload_n 1, 1) := by decide +kernel
theorem dX3_listen_44 : decode cX3_listen 44 = .ok (.invokevirtual 115, 3) := by decide +kernel
theorem dX3_listen_47 : decode cX3_listen 47 = .ok (.iadd, 1) := by decide +kernel
theorem dX3_listen_48 : decode cX3_listen 48 = .ok (.iastore, 1) := by decide +kernel
theorem dX3_listen_49 : decode cX3_listen 49 = .ok (.aload_n 0, 1) := by decide +kernel
theorem dX3_listen_50 : decode cX3_listen 50 = .ok (.getfield 33, 3) := by decide +kernel
theorem dX3_listen_53 : decode cX3_listen 53 = .ok (.iload_n 1, 1) := by decide +kernel
theorem dX3_listen_54 : decode cX3_listen 54 = .ok (.iaload, 1) := by decide +kernel
theorem dX3_listen_55 : decode cX3_listen 55 = .ok (.aload_n 0, 1) := by decide +kernel
theorem dX3_listen_56 : decode cX3_listen 56 = .ok (.getfield 15, 3) := by decide +kernel
theorem dX3_listen_59 : decode cX3_listen 59 = .ok (.iload_n 1, 1) := by decide +kernel
theorem dX3_listen_60 : decode cX3_listen 60 = .ok (.iaload, 1) := by decide +kernel
theorem dX3_listen_61 : decode cX3_listen 61 = .ok (.if_icmp .lt 10, 3) := by decide +kernel
theorem dX3_listen_64 : decode cX3_listen 64 = .ok (.aload_n 0, 1) := by decide +kernel
theorem dX3_listen_65 : decode cX3_listen 65 = .ok (.getfield 27, 3) := by decide +kernel
theorem dX3_listen_68 : decode cX3_listen 68 = .ok (.iload_n 1, 1) := by decide +kernel
theorem dX3_listen_69 : decode cX3_listen 69 = .ok (.iconst 2, 1) := by decide +kernel
theorem dX3_listen_70 : decode cX3_listen 70 = .ok (.iastore, 1) := by decide +kernel
theorem dX3_listen_71 : decode cX3_listen 71 = .ok (.aload_n 0, 1) := by decide +kernel
theorem dX3_listen_72 : decode cX3_listen 72 = .ok (.getfield 27, 3) := by decide +kernel
theorem dX3_listen_75 : decode cX3_listen 75 = .ok (.iload_n 1, 1) := by decide +kernel
theorem dX3_listen_76 : decode cX3_listen 76 = .ok (.iaload, 1) := by decide +kernel
theorem dX3_listen_77 : decode cX3_listen 77 = .ok (.iconst 2, 1) := by decide +kernel
theorem dX3_listen_78 : decode cX3_listen 78 = .ok (.if_icmp .eq 13, 3) := by decide +kernel
theorem dX3_listen_81 : decode cX3_listen 81 = .ok (.aload_n 0, 1) := by decide +kernel
theorem dX3_listen_82 : decode cX3_listen 82 = .ok (.getfield 33, 3) := by decide +kernel
theorem dX3_listen_85 : decode cX3_listen 85 = .ok (.iload_n 1, 1) := by decide +kernel
theorem dX3_listen_86 : decode cX3_listen 86 = .ok (.iaload, 1) := by decide +kernel
theorem dX3_listen_87 : decode cX3_listen 87 = .ok (.iload_n 3, 1) := by decide +kernel
theorem dX3_listen_88 : decode cX3_listen 88 = .ok (.if_icmp .eq 7, 3) := by decide +kernel
theorem dX3_listen_91 : decode cX3_listen 91 = .ok (.iconst 1, 1) := by decide +kernel
theorem dX3_listen_92 : decode cX3_listen 92 = .ok (.goto 4, 3) := by decide +kernel
theorem dX3_listen_95 : decode cX3_listen 95 = .ok (.iconst 0, 1) := by decide +kernel
theorem dX3_listen_96 : decode cX3_listen 96 = .ok (.ireturn, 1) := by decide +kernel
theorem dX3_calmGained_0 : decode cX3_calmGained 0 = .ok (.aload_n 0, 1) := by decide +kernel
theorem dX3_calmGained_1 : decode cX3_calmGained 1 = .ok (.getfield 49, 3) := by decide +kernel
theorem dX3_calmGained_4 : decode cX3_calmGained 4 = .ok (.iload_n 1, 1) := by decide +kernel
theorem dX3_calmGained_5 : decode cX3_calmGained 5 = .ok (.invokestatic 69, 3) := by decide +kernel
theorem dX3_calmGained_8 : decode cX3_calmGained 8 = .ok (.ifCond .eq 5, 3) := by decide +kernel
theorem dX3_calmGained_11 : decode cX3_calmGained 11 = .ok (.iconst 2, 1) := by decide +kernel
theorem dX3_calmGained_12 : decode cX3_calmGained 12 = .ok (.ireturn, 1) := by decide +kernel
theorem dX3_calmGained_13 : decode cX3_calmGained 13 = .ok (.aload_n 0, 1) := by decide +kernel
theorem dX3_calmGained_14 : decode cX3_calmGained 14 = .ok (.getfield 9, 3) := by decide +kernel
theorem dX3_calmGained_17 : decode cX3_calmGained 17 = .ok (.iload_n 1, 1) := by decide +kernel
theorem dX3_calmGained_18 : decode cX3_calmGained 18 = .ok (.iaload, 1) := by decide +kernel
theorem dX3_calmGained_19 : decode cX3_calmGained 19 = .ok (.iconst 3, 1) := by decide +kernel
theorem dX3_calmGained_20 : decode cX3_calmGained 20 = .ok (.if_icmp .ne 7, 3) := by decide +kernel
theorem dX3_calmGained_23 : decode cX3_calmGained 23 = .ok (.iconst 0, 1) := by decide +kernel
theorem dX3_calmGained_24 : decode cX3_calmGained 24 = .ok (.goto 4, 3) := by decide +kernel
theorem dX3_calmGained_27 : decode cX3_calmGained 27 = .ok (.iconst 1, 1) := by decide +kernel
theorem dX3_calmGained_28 : decode cX3_calmGained 28 = .ok (.ireturn, 1) := by decide +kernel
theorem dX4_init_0 : decode cX4_init 0 = .ok (.aload_n 0, 1) := by decide +kernel
theorem dX4_init_1 : decode cX4_init 1 = .ok (.invokespecial 3, 3) := by decide +kernel
theorem dX4_init_4 : decode cX4_init 4 = .ok (.aload_n 0, 1) := by decide +kernel
theorem dX4_init_5 : decode cX4_init 5 = .ok (.bipush 40, 2) := by decide +kernel
theorem dX4_init_7 : decode cX4_init 7 = .ok (.newarray .int, 2) := by decide +kernel
theorem dX4_init_9 : decode cX4_init 9 = .ok (.putfield 9, 3) := by decide +kernel
theorem dX4_init_12 : decode cX4_init 12 = .ok (.aload_n 0, 1) := by decide +kernel
theorem dX4_init_13 : decode cX4_init 13 = .ok (.iconst (-1), 1) := by decide +kernel
theorem dX4_init_14 : decode cX4_init 14 = .ok (.putfield 15, 3) := by decide +kernel
theorem dX4_init_17 : decode cX4_init 17 = .ok (.return_, 1) := by decide +kernel
theorem dX4_begin_0 : decode cX4_begin 0 = .ok (.aload_n 0, 1) := by decide +kernel
theorem dX4_begin_1 : decode cX4_begin 1 = .ok (.iload_n 1, 1) := by decide +kernel
theorem dX4_begin_2 : decode cX4_begin 2 = .ok (.putfield 15, 3) := by decide +kernel
theorem dX4_begin_5 : decode cX4_begin 5 = .ok (.aload_n 0, 1) := by decide +kernel
theorem dX4_begin_6 : decode cX4_begin 6 = .ok (.iload_n 2, 1) := by decide +kernel
theorem dX4_begin_7 : decode cX4_begin 7 = .ok (.putfield 19, 3) := by decide +kernel
theorem dX4_begin_10 : decode cX4_begin 10 = .ok (.iconst 0, 1) := by decide +kernel
theorem dX4_begin_11 : decode cX4_begin 11 = .ok (.istore_n 3, 1) := by decide +kernel
theorem dX4_begin_12 : decode cX4_begin 12 = .ok (.iload_n 3, 1) := by decide +kernel
theorem dX4_begin_13 : decode cX4_begin 13 = .ok (.bipush 40, 2) := by decide +kernel
theorem dX4_begin_15 : decode cX4_begin 15 = .ok (.if_icmp .ge 16, 3) := by decide +kernel
theorem dX4_begin_18 : decode cX4_begin 18 = .ok (.aload_n 0, 1) := by decide +kernel
theorem dX4_begin_19 : decode cX4_begin 19 = .ok (.getfield 9, 3) := by decide +kernel
theorem dX4_begin_22 : decode cX4_begin 22 = .ok (.iload_n 3, 1) := by decide +kernel
theorem dX4_begin_23 : decode cX4_begin 23 = .ok (.iconst 0, 1) := by decide +kernel
theorem dX4_begin_24 : decode cX4_begin 24 = .ok (.iastore, 1) := by decide +kernel
theorem dX4_begin_25 : decode cX4_begin 25 = .ok (.iinc 3 1, 3) := by decide +kernel
theorem dX4_begin_28 : decode cX4_begin 28 = .ok (.goto (-16), 3) := by decide +kernel
theorem dX4_begin_31 : decode cX4_begin 31 = .ok (.return_, 1) := by decide +kernel
theorem dX4_narrowed_0 : decode cX4_narrowed 0 = .ok (.aload_n 0, 1) := by decide +kernel
theorem dX4_narrowed_1 : decode cX4_narrowed 1 = .ok (.getfield 15, 3) := by decide +kernel
theorem dX4_narrowed_4 : decode cX4_narrowed 4 = .ok (.lookupswitch 34 #[(0, 28), (1, 31)], 28) := by decide +kernel
theorem dX4_narrowed_32 : decode cX4_narrowed 32 = .ok (.iload_n 1, 1) := by decide +kernel
theorem dX4_narrowed_33 : decode cX4_narrowed 33 = .ok (.i2b, 1) := by decide +kernel
theorem dX4_narrowed_34 : decode cX4_narrowed 34 = .ok (.ireturn, 1) := by decide +kernel
theorem dX4_narrowed_35 : decode cX4_narrowed 35 = .ok (.iload_n 1, 1) := by decide +kernel
theorem dX4_narrowed_36 : decode cX4_narrowed 36 = .ok (.i2s, 1) := by decide +kernel
theorem dX4_narrowed_37 : decode cX4_narrowed 37 = .ok (.ireturn, 1) := by decide +kernel
theorem dX4_narrowed_38 : decode cX4_narrowed 38 = .ok (.iload_n 1, 1) := by decide +kernel
theorem dX4_narrowed_39 : decode cX4_narrowed 39 = .ok (.ireturn, 1) := by decide +kernel
theorem dX4_lacks_0 : decode cX4_lacks 0 = .ok (.iload_n 2, 1) := by decide +kernel
theorem dX4_lacks_1 : decode cX4_lacks 1 = .ok (.ifCond .lt 17, 3) := by decide +kernel
theorem dX4_lacks_4 : decode cX4_lacks 4 = .ok (.iload_n 1, 1) := by decide +kernel
theorem dX4_lacks_5 : decode cX4_lacks 5 = .ok (.ifCond .lt 13, 3) := by decide +kernel
theorem dX4_lacks_8 : decode cX4_lacks 8 = .ok (.iload_n 1, 1) := by decide +kernel
theorem dX4_lacks_9 : decode cX4_lacks 9 = .ok (.aload_n 0, 1) := by decide +kernel
theorem dX4_lacks_10 : decode cX4_lacks 10 = .ok (.getfield 19, 3) := by decide +kernel
theorem dX4_lacks_13 : decode cX4_lacks 13 = .ok (.iload_n 2, 1) := by decide +kernel
theorem dX4_lacks_14 : decode cX4_lacks 14 = .ok (.isub, 1) := by decide +kernel
theorem dX4_lacks_15 : decode cX4_lacks 15 = .ok (.if_icmp .le 7, 3) := by decide +kernel
theorem dX4_lacks_18 : decode cX4_lacks 18 = .ok (.iconst 1, 1) := by decide +kernel
theorem dX4_lacks_19 : decode cX4_lacks 19 = .ok (.goto 4, 3) := by decide +kernel
theorem dX4_lacks_22 : decode cX4_lacks 22 = .ok (.iconst 0, 1) := by decide +kernel
theorem dX4_lacks_23 : decode cX4_lacks 23 = .ok (.ireturn, 1) := by decide +kernel
theorem dX4_findingFor_0 : decode cX4_findingFor 0 = .ok (.aload_n 0, 1) := by decide +kernel
theorem dX4_findingFor_1 : decode cX4_findingFor 1 = .ok (.getfield 15, 3) := by decide +kernel
theorem dX4_findingFor_4 : decode cX4_findingFor 4 = .ok (.iconst (-1), 1) := by decide +kernel
theorem dX4_findingFor_5 : decode cX4_findingFor 5 = .ok (.if_icmp .ne 5, 3) := by decide +kernel
theorem dX4_findingFor_8 : decode cX4_findingFor 8 = .ok (.iconst 1, 1) := by decide +kernel
theorem dX4_findingFor_9 : decode cX4_findingFor 9 = .ok (.ireturn, 1) := by decide +kernel
theorem dX4_findingFor_10 : decode cX4_findingFor 10 = .ok (.aload_n 0, 1) := by decide +kernel
theorem dX4_findingFor_11 : decode cX4_findingFor 11 = .ok (.iload_n 1, 1) := by decide +kernel
theorem dX4_findingFor_12 : decode cX4_findingFor 12 = .ok (.iload_n 2, 1) := by decide +kernel
theorem dX4_findingFor_13 : decode cX4_findingFor 13 = .ok (.invokevirtual 22, 3) := by decide +kernel
theorem dX4_findingFor_16 : decode cX4_findingFor 16 = .ok (.ifCond .eq 7, 3) := by decide +kernel
theorem dX4_findingFor_19 : decode cX4_findingFor 19 = .ok (.iconst 2, 1) := by decide +kernel
theorem dX4_findingFor_20 : decode cX4_findingFor 20 = .ok (.goto 4, 3) := by decide +kernel
theorem dX4_findingFor_23 : decode cX4_findingFor 23 = .ok (.iconst 0, 1) := by decide +kernel
theorem dX4_findingFor_24 : decode cX4_findingFor 24 = .ok (.ireturn, 1) := by decide +kernel
theorem dX5_init_0 : decode cX5_init 0 = .ok (.aload_n 0, 1) := by decide +kernel
theorem dX5_init_1 : decode cX5_init 1 = .ok (.invokespecial 3, 3) := by decide +kernel
theorem dX5_init_4 : decode cX5_init 4 = .ok (.aload_n 0, 1) := by decide +kernel
theorem dX5_init_5 : decode cX5_init 5 = .ok (.bipush 120, 2) := by decide +kernel
theorem dX5_init_7 : decode cX5_init 7 = .ok (.newarray .int, 2) := by decide +kernel
theorem dX5_init_9 : decode cX5_init 9 = .ok (.putfield 9, 3) := by decide +kernel
theorem dX5_init_12 : decode cX5_init 12 = .ok (.return_, 1) := by decide +kernel
theorem dX5_readInto_0 : decode cX5_readInto 0 = .ok (.aload_n 1, 1) := by decide +kernel
theorem dX5_readInto_1 : decode cX5_readInto 1 = .ok (.invokevirtual 15, 3) := by decide +kernel
theorem dX5_readInto_4 : decode cX5_readInto 4 = .ok (.iconst 0, 1) := by decide +kernel
theorem dX5_readInto_5 : decode cX5_readInto 5 = .ok (.istore_n 2, 1) := by decide +kernel
theorem dX5_readInto_6 : decode cX5_readInto 6 = .ok (.iconst 0, 1) := by decide +kernel
theorem dX5_readInto_7 : decode cX5_readInto 7 = .ok (.istore_n 3, 1) := by decide +kernel
theorem dX5_readInto_8 : decode cX5_readInto 8 = .ok (.iconst 0, 1) := by decide +kernel
theorem dX5_readInto_9 : decode cX5_readInto 9 = .ok (.istore 4, 2) := by decide +kernel
theorem dX5_readInto_11 : decode cX5_readInto 11 = .ok (.iload 4, 2) := by decide +kernel
theorem dX5_readInto_13 : decode cX5_readInto 13 = .ok (.aload_n 0, 1) := by decide +kernel
theorem dX5_readInto_14 : decode cX5_readInto 14 = .ok (.getfield 20, 3) := by decide +kernel
theorem dX5_readInto_17 : decode cX5_readInto 17 = .ok (.if_icmp .ge 77, 3) := by decide +kernel
theorem dX5_readInto_20 : decode cX5_readInto 20 = .ok (.aload_n 0, 1) := by decide +kernel
theorem dX5_readInto_21 : decode cX5_readInto 21 = .ok (.iload 4, 2) := by decide +kernel
theorem dX5_readInto_23 : decode cX5_readInto 23 = .ok (.invokevirtual 24, 3) := by decide +kernel
theorem dX5_readInto_26 : decode cX5_readInto 26 = .ok (.istore_n 3, 1) := by decide +kernel
theorem dX5_readInto_27 : decode cX5_readInto 27 = .ok (.aload_n 0, 1) := by decide +kernel
theorem dX5_readInto_28 : decode cX5_readInto 28 = .ok (.aload_n 0, 1) := by decide +kernel
theorem dX5_readInto_29 : decode cX5_readInto 29 = .ok (.iload 4, 2) := by decide +kernel
theorem dX5_readInto_31 : decode cX5_readInto 31 = .ok (.iload_n 3, 1) := by decide +kernel
theorem dX5_readInto_32 : decode cX5_readInto 32 = .ok (.iload_n 2, 1) := by decide +kernel
theorem dX5_readInto_33 : decode cX5_readInto 33 = .ok (.aload_n 1, 1) := by decide +kernel
theorem dX5_readInto_34 : decode cX5_readInto 34 = .ok (.getfield 28, 3) := by decide +kernel
theorem dX5_readInto_37 : decode cX5_readInto 37 = .ok (.invokevirtual 31, 3) := by decide +kernel
theorem dX5_readInto_40 : decode cX5_readInto 40 = .ok (.putfield 35, 3) := by decide +kernel
theorem dX5_readInto_43 : decode cX5_readInto 43 = .ok (.aload_n 0, 1) := by decide +kernel
theorem dX5_readInto_44 : decode cX5_readInto 44 = .ok (.getfield 35, 3) := by decide +kernel
theorem dX5_readInto_47 : decode cX5_readInto 47 = .ok (.ifCond .eq 6, 3) := by decide +kernel
theorem dX5_readInto_50 : decode cX5_readInto 50 = .ok (.iload 4, 2) := by decide +kernel
theorem dX5_readInto_52 : decode cX5_readInto 52 = .ok (.ireturn, 1) := by decide +kernel
theorem dX5_readInto_53 : decode cX5_readInto 53 = .ok (.aload_n 1, 1) := by decide +kernel
theorem dX5_readInto_54 : decode cX5_readInto 54 = .ok (.iload_n 2, 1) := by decide +kernel
theorem dX5_readInto_55 : decode cX5_readInto 55 = .ok (.aload_n 0, 1) := by decide +kernel
theorem dX5_readInto_56 : decode cX5_readInto 56 = .ok (.iload 4, 2) := by decide +kernel
theorem dX5_readInto_58 : decode cX5_readInto 58 = .ok (.iload_n 3, 1) := by decide +kernel
theorem dX5_readInto_59 : decode cX5_readInto 59 = .ok (.invokevirtual 38, 3) := by decide +kernel
theorem dX5_readInto_62 : decode cX5_readInto 62 = .ok (.invokestatic 42, 3) := by decide +kernel
theorem dX5_readInto_65 : decode cX5_readInto 65 = .ok (.iload_n 2, 1) := by decide +kernel
theorem dX5_readInto_66 : decode cX5_readInto 66 = .ok (.iconst 1, 1) := by decide +kernel
theorem dX5_readInto_67 : decode cX5_readInto 67 = .ok (.iadd, 1) := by decide +kernel
theorem dX5_readInto_68 : decode cX5_readInto 68 = .ok (.bipush 12, 2) := by decide +kernel
theorem dX5_readInto_70 : decode cX5_readInto 70 = .ok (.if_icmp .ge 9, 3) := by decide +kernel
theorem dX5_readInto_73 : decode cX5_readInto 73 = .ok (.iload_n 2, 1) := by decide +kernel
theorem dX5_readInto_74 : decode cX5_readInto 74 = .ok (.iconst 1, 1) := by decide +kernel
theorem dX5_readInto_75 : decode cX5_readInto 75 = .ok (.iadd, 1) := by decide +kernel
theorem dX5_readInto_76 : decode cX5_readInto 76 = .ok (.goto 4, 3) := by decide +kernel
theorem dX5_readInto_79 : decode cX5_readInto 79 = .ok (.iconst 5, 1) := by decide +kernel
theorem dX5_readInto_80 : decode cX5_readInto 80 = .ok (.istore_n 2, 1) := by decide +kernel
theorem dX5_readInto_81 : decode cX5_readInto 81 = .ok (.iload 4, 2) := by decide +kernel
theorem dX5_readInto_83 : decode cX5_readInto 83 = .ok (.iconst 1, 1) := by decide +kernel
theorem dX5_readInto_84 : decode cX5_readInto 84 = .ok (.iload_n 3, 1) := by decide +kernel
theorem dX5_readInto_85 : decode cX5_readInto 85 = .ok (.invokestatic 46, 3) := by decide +kernel
theorem dX5_readInto_88 : decode cX5_readInto 88 = .ok (.iadd, 1) := by decide +kernel
theorem dX5_readInto_89 : decode cX5_readInto 89 = .ok (.istore 4, 2) := by decide +kernel
theorem dX5_readInto_91 : decode cX5_readInto 91 = .ok (.goto (-80), 3) := by decide +kernel
theorem dX5_readInto_94 : decode cX5_readInto 94 = .ok (.iload_n 2, 1) := by decide +kernel
theorem dX5_readInto_95 : decode cX5_readInto 95 = .ok (.iconst 5, 1) := by decide +kernel
theorem dX5_readInto_96 : decode cX5_readInto 96 = .ok (.if_icmp .ne 10, 3) := by decide +kernel
theorem dX5_readInto_99 : decode cX5_readInto 99 = .ok (.aload_n 1, 1) := by decide +kernel
theorem dX5_readInto_100 : decode cX5_readInto 100 = .ok (.getfield 28, 3) := by decide +kernel
theorem dX5_readInto_103 : decode cX5_readInto 103 = .ok (.ifCond .ne 13, 3) := by decide +kernel
theorem dX5_readInto_106 : decode cX5_readInto 106 = .ok (.aload_n 0, 1) := by decide +kernel
theorem dX5_readInto_107 : decode cX5_readInto 107 = .ok (.iconst 1, 1) := by decide +kernel
theorem dX5_readInto_108 : decode cX5_readInto 108 = .ok (.putfield 35, 3) := by decide +kernel
theorem dX5_readInto_111 : decode cX5_readInto 111 = .ok (.aload_n 0, 1) := by decide +kernel
theorem dX5_readInto_112 : decode cX5_readInto 112 = .ok (.getfield 20, 3) := by decide +kernel
theorem dX5_readInto_115 : decode cX5_readInto 115 = .ok (.ireturn, 1) := by decide +kernel
theorem dX5_readInto_116 : decode cX5_readInto 116 = .ok (.iconst (-1), 1) := by decide +kernel
theorem dX5_readInto_117 : decode cX5_readInto 117 = .ok (.ireturn, 1) := by decide +kernel
theorem dX5_widthAt_0 : decode cX5_widthAt 0 = .ok (.aload_n 0, 1) := by decide +kernel
theorem dX5_widthAt_1 : decode cX5_widthAt 1 = .ok (.getfield 9, 3) := by decide +kernel
theorem dX5_widthAt_4 : decode cX5_widthAt 4 = .ok (.iload_n 1, 1) := by decide +kernel
theorem dX5_widthAt_5 : decode cX5_widthAt 5 = .ok (.iaload, 1) := by decide +kernel
theorem dX5_widthAt_6 : decode cX5_widthAt 6 = .ok (.istore_n 2, 1) := by decide +kernel
theorem dX5_widthAt_7 : decode cX5_widthAt 7 = .ok (.iload_n 2, 1) := by decide +kernel
theorem dX5_widthAt_8 : decode cX5_widthAt 8 = .ok (.bipush 97, 2) := by decide +kernel
theorem dX5_widthAt_10 : decode cX5_widthAt 10 = .ok (.if_icmp .lt 9, 3) := by decide +kernel
theorem dX5_widthAt_13 : decode cX5_widthAt 13 = .ok (.iload_n 2, 1) := by decide +kernel
theorem dX5_widthAt_14 : decode cX5_widthAt 14 = .ok (.bipush 122, 2) := by decide +kernel
theorem dX5_widthAt_16 : decode cX5_widthAt 16 = .ok (.if_icmp .le 15, 3) := by decide +kernel
theorem dX5_widthAt_19 : decode cX5_widthAt 19 = .ok (.iload_n 2, 1) := by decide +kernel
theorem dX5_widthAt_20 : decode cX5_widthAt 20 = .ok (.bipush 44, 2) := by decide +kernel
theorem dX5_widthAt_22 : decode cX5_widthAt 22 = .ok (.if_icmp .eq 9, 3) := by decide +kernel
theorem dX5_widthAt_25 : decode cX5_widthAt 25 = .ok (.iload_n 2, 1) := by decide +kernel
theorem dX5_widthAt_26 : decode cX5_widthAt 26 = .ok (.bipush 59, 2) := by decide +kernel
theorem dX5_widthAt_28 : decode cX5_widthAt 28 = .ok (.if_icmp .ne 5, 3) := by decide +kernel
theorem dX5_widthAt_31 : decode cX5_widthAt 31 = .ok (.iconst 1, 1) := by decide +kernel
theorem dX5_widthAt_32 : decode cX5_widthAt 32 = .ok (.ireturn, 1) := by decide +kernel
theorem dX5_widthAt_33 : decode cX5_widthAt 33 = .ok (.iconst 0, 1) := by decide +kernel
theorem dX5_widthAt_34 : decode cX5_widthAt 34 = .ok (.istore_n 3, 1) := by decide +kernel
theorem dX5_widthAt_35 : decode cX5_widthAt 35 = .ok (.iload_n 1, 1) := by decide +kernel
theorem dX5_widthAt_36 : decode cX5_widthAt 36 = .ok (.istore 4, 2) := by decide +kernel
theorem dX5_widthAt_38 : decode cX5_widthAt 38 = .ok (.iload 4, 2) := by decide +kernel
theorem dX5_widthAt_40 : decode cX5_widthAt 40 = .ok (.aload_n 0, 1) := by decide +kernel
theorem dX5_widthAt_41 : decode cX5_widthAt 41 = .ok (.getfield 20, 3) := by decide +kernel
theorem dX5_widthAt_44 : decode cX5_widthAt 44 = .ok (.if_icmp .ge 25, 3) := by decide +kernel
theorem dX5_widthAt_47 : decode cX5_widthAt 47 = .ok (.aload_n 0, 1) := by decide +kernel
theorem dX5_widthAt_48 : decode cX5_widthAt 48 = .ok (.getfield 9, 3) := by decide +kernel
theorem dX5_widthAt_51 : decode cX5_widthAt 51 = .ok (.iload 4, 2) := by decide +kernel
theorem dX5_widthAt_53 : decode cX5_widthAt 53 = .ok (.iaload, 1) := by decide +kernel
theorem dX5_widthAt_54 : decode cX5_widthAt 54 = .ok (.invokestatic 51, 3) := by decide +kernel
theorem dX5_widthAt_57 : decode cX5_widthAt 57 = .ok (.ifCond .eq 12, 3) := by decide +kernel
theorem dX5_widthAt_60 : decode cX5_widthAt 60 = .ok (.iinc 3 1, 3) := by decide +kernel
theorem dX5_widthAt_63 : decode cX5_widthAt 63 = .ok (.iinc 4 1, 3) := by decide +kernel
theorem dX5_widthAt_66 : decode cX5_widthAt 66 = .ok (.goto (-28), 3) := by decide +kernel
theorem dX5_widthAt_69 : decode cX5_widthAt 69 = .ok (.iload_n 3, 1) := by decide +kernel
theorem dX5_widthAt_70 : decode cX5_widthAt 70 = .ok (.iconst 2, 1) := by decide +kernel
theorem dX5_widthAt_71 : decode cX5_widthAt 71 = .ok (.if_icmp .le 7, 3) := by decide +kernel
theorem dX5_widthAt_74 : decode cX5_widthAt 74 = .ok (.iconst 0, 1) := by decide +kernel
theorem dX5_widthAt_75 : decode cX5_widthAt 75 = .ok (.goto 4, 3) := by decide +kernel
theorem dX5_widthAt_78 : decode cX5_widthAt 78 = .ok (.iload_n 3, 1) := by decide +kernel
theorem dX5_widthAt_79 : decode cX5_widthAt 79 = .ok (.ireturn, 1) := by decide +kernel
theorem dX5_faultAt_0 : decode cX5_faultAt 0 = .ok (.iload_n 2, 1) := by decide +kernel
theorem dX5_faultAt_1 : decode cX5_faultAt 1 = .ok (.ifCond .eq 20, 3) := by decide +kernel
theorem dX5_faultAt_4 : decode cX5_faultAt 4 = .ok (.aload_n 0, 1) := by decide +kernel
theorem dX5_faultAt_5 : decode cX5_faultAt 5 = .ok (.getfield 9, 3) := by decide +kernel
theorem dX5_faultAt_8 : decode cX5_faultAt 8 = .ok (.iload_n 1, 1) := by decide +kernel
theorem dX5_faultAt_9 : decode cX5_faultAt 9 = .ok (.iaload, 1) := by decide +kernel
theorem dX5_faultAt_10 : decode cX5_faultAt 10 = .ok (.getstatic 55, 3) := by decide +kernel
theorem dX5_faultAt_13 : decode cX5_faultAt 13 = .ok (.iload_n 3, 1) := by decide +kernel
theorem dX5_faultAt_14 : decode cX5_faultAt 14 = .ok (.iaload, 1) := by decide +kernel
theorem dX5_faultAt_15 : decode cX5_faultAt 15 = .ok (.invokestatic 58, 3) := by decide +kernel
theorem dX5_faultAt_18 : decode cX5_faultAt 18 = .ok (.ifCond .ne 5, 3) := by decide +kernel
theorem dX5_faultAt_21 : decode cX5_faultAt 21 = .ok (.iconst 1, 1) := by decide +kernel
theorem dX5_faultAt_22 : decode cX5_faultAt 22 = .ok (.ireturn, 1) := by decide +kernel
theorem dX5_faultAt_23 : decode cX5_faultAt 23 = .ok (.getstatic 55, 3) := by decide +kernel
theorem dX5_faultAt_26 : decode cX5_faultAt 26 = .ok (.iload_n 3, 1) := by decide +kernel
theorem dX5_faultAt_27 : decode cX5_faultAt 27 = .ok (.iaload, 1) := by decide +kernel
theorem dX5_faultAt_28 : decode cX5_faultAt 28 = .ok (.iconst 1, 1) := by decide +kernel
theorem dX5_faultAt_29 : decode cX5_faultAt 29 = .ok (.if_icmp .ne 27, 3) := by decide +kernel
theorem dX5_faultAt_32 : decode cX5_faultAt 32 = .ok (.aload_n 0, 1) := by decide +kernel
theorem dX5_faultAt_33 : decode cX5_faultAt 33 = .ok (.iload_n 1, 1) := by decide +kernel
theorem dX5_faultAt_34 : decode cX5_faultAt 34 = .ok (.iload_n 2, 1) := by decide +kernel
theorem dX5_faultAt_35 : decode cX5_faultAt 35 = .ok (.invokevirtual 38, 3) := by decide +kernel
theorem dX5_faultAt_38 : decode cX5_faultAt 38 = .ok (.getstatic 62, 3) := by decide +kernel
theorem dX5_faultAt_41 : decode cX5_faultAt 41 = .ok (.iload_n 3, 1) := by decide +kernel
theorem dX5_faultAt_42 : decode cX5_faultAt 42 = .ok (.iaload, 1) := by decide +kernel
theorem dX5_faultAt_43 : decode cX5_faultAt 43 = .ok (.getstatic 65, 3) := by decide +kernel
theorem dX5_faultAt_46 : decode cX5_faultAt 46 = .ok (.iload_n 3, 1) := by decide +kernel
theorem dX5_faultAt_47 : decode cX5_faultAt 47 = .ok (.iaload, 1) := by decide +kernel
theorem dX5_faultAt_48 : decode cX5_faultAt 48 = .ok (.invokestatic 68, 3) := by decide +kernel
theorem dX5_faultAt_51 : decode cX5_faultAt 51 = .ok (.ifCond .eq 5, 3) := by decide +kernel
theorem dX5_faultAt_54 : decode cX5_faultAt 54 = .ok (.iconst 2, 1) := by decide +kernel
theorem dX5_faultAt_55 : decode cX5_faultAt 55 = .ok (.ireturn, 1) := by decide +kernel
theorem dX5_faultAt_56 : decode cX5_faultAt 56 = .ok (.getstatic 55, 3) := by decide +kernel
theorem dX5_faultAt_59 : decode cX5_faultAt 59 = .ok (.iload_n 3, 1) := by decide +kernel
theorem dX5_faultAt_60 : decode cX5_faultAt 60 = .ok (.iaload, 1) := by decide +kernel
theorem dX5_faultAt_61 : decode cX5_faultAt 61 = .ok (.iconst 4, 1) := by decide +kernel
theorem dX5_faultAt_62 : decode cX5_faultAt 62 = .ok (.if_icmp .ne 14, 3) := by decide +kernel
theorem dX5_faultAt_65 : decode cX5_faultAt 65 = .ok (.iload 4, 2) := by decide +kernel
theorem dX5_faultAt_67 : decode cX5_faultAt 67 = .ok (.bipush 7, 2) := by decide +kernel
theorem dX5_faultAt_69 : decode cX5_faultAt 69 = .ok (.if_icmp .lt 7, 3) := by decide +kernel
theorem dX5_faultAt_72 : decode cX5_faultAt 72 = .ok (.iconst 3, 1) := by decide +kernel
theorem dX5_faultAt_73 : decode cX5_faultAt 73 = .ok (.goto 4, 3) := by decide +kernel
theorem dX5_faultAt_76 : decode cX5_faultAt 76 = .ok (.iconst 0, 1) := by decide +kernel
theorem dX5_faultAt_77 : decode cX5_faultAt 77 = .ok (.ireturn, 1) := by decide +kernel
theorem dX5_canStand_0 : decode cX5_canStand 0 = .ok (.iload_n 1, 1) := by decide +kernel
theorem dX5_canStand_1 : decode cX5_canStand 1 = .ok (.tableswitch 72 0 3 #[31, 43, 48, 60], 31) := by decide +kernel
theorem dX5_canStand_32 : decode cX5_canStand 32 = .ok (.iload_n 0, 1) := by decide +kernel
theorem dX5_canStand_33 : decode cX5_canStand 33 = .ok (.bipush 107, 2) := by decide +kernel
theorem dX5_canStand_35 : decode cX5_canStand 35 = .ok (.if_icmp .ne 7, 3) := by decide +kernel
theorem dX5_canStand_38 : decode cX5_canStand 38 = .ok (.iconst 1, 1) := by decide +kernel
theorem dX5_canStand_39 : decode cX5_canStand 39 = .ok (.goto 4, 3) := by decide +kernel
theorem dX5_canStand_42 : decode cX5_canStand 42 = .ok (.iconst 0, 1) := by decide +kernel
theorem dX5_canStand_43 : decode cX5_canStand 43 = .ok (.ireturn, 1) := by decide +kernel
theorem dX5_canStand_44 : decode cX5_canStand 44 = .ok (.iload_n 0, 1) := by decide +kernel
theorem dX5_canStand_45 : decode cX5_canStand 45 = .ok (.invokestatic 51, 3) := by decide +kernel
theorem dX5_canStand_48 : decode cX5_canStand 48 = .ok (.ireturn, 1) := by decide +kernel
theorem dX5_canStand_49 : decode cX5_canStand 49 = .ok (.iload_n 0, 1) := by decide +kernel
theorem dX5_canStand_50 : decode cX5_canStand 50 = .ok (.bipush 44, 2) := by decide +kernel
theorem dX5_canStand_52 : decode cX5_canStand 52 = .ok (.if_icmp .ne 7, 3) := by decide +kernel
theorem dX5_canStand_55 : decode cX5_canStand 55 = .ok (.iconst 1, 1) := by decide +kernel
theorem dX5_canStand_56 : decode cX5_canStand 56 = .ok (.goto 4, 3) := by decide +kernel
theorem dX5_canStand_59 : decode cX5_canStand 59 = .ok (.iconst 0, 1) := by decide +kernel
theorem dX5_canStand_60 : decode cX5_canStand 60 = .ok (.ireturn, 1) := by decide +kernel
theorem dX5_canStand_61 : decode cX5_canStand 61 = .ok (.iload_n 0, 1) := by decide +kernel
theorem dX5_canStand_62 : decode cX5_canStand 62 = .ok (.bipush 59, 2) := by decide +kernel
theorem dX5_canStand_64 : decode cX5_canStand 64 = .ok (.if_icmp .ne 7, 3) := by decide +kernel
theorem dX5_canStand_67 : decode cX5_canStand 67 = .ok (.iconst 1, 1) := by decide +kernel
theorem dX5_canStand_68 : decode cX5_canStand 68 = .ok (.goto 4, 3) := by decide +kernel
theorem dX5_canStand_71 : decode cX5_canStand 71 = .ok (.iconst 0, 1) := by decide +kernel
theorem dX5_canStand_72 : decode cX5_canStand 72 = .ok (.ireturn, 1) := by decide +kernel
theorem dX5_canStand_73 : decode cX5_canStand 73 = .ok (.iload_n 0, 1) := by decide +kernel
theorem dX5_canStand_74 : decode cX5_canStand 74 = .ok (.invokestatic 72, 3) := by decide +kernel
theorem dX5_canStand_77 : decode cX5_canStand 77 = .ok (.ifCond .eq 7, 3) := by decide +kernel
theorem dX5_canStand_80 : decode cX5_canStand 80 = .ok (.iconst 1, 1) := by decide +kernel
theorem dX5_canStand_81 : decode cX5_canStand 81 = .ok (.goto 4, 3) := by decide +kernel
theorem dX5_canStand_84 : decode cX5_canStand 84 = .ok (.iconst 0, 1) := by decide +kernel
theorem dX5_canStand_85 : decode cX5_canStand 85 = .ok (.ireturn, 1) := by decide +kernel
theorem dX5_valueAt_0 : decode cX5_valueAt 0 = .ok (.aload_n 0, 1) := by decide +kernel
theorem dX5_valueAt_1 : decode cX5_valueAt 1 = .ok (.getfield 9, 3) := by decide +kernel
theorem dX5_valueAt_4 : decode cX5_valueAt 4 = .ok (.iload_n 1, 1) := by decide +kernel
theorem dX5_valueAt_5 : decode cX5_valueAt 5 = .ok (.iaload, 1) := by decide +kernel
theorem dX5_valueAt_6 : decode cX5_valueAt 6 = .ok (.invokestatic 51, 3) := by decide +kernel
theorem dX5_valueAt_9 : decode cX5_valueAt 9 = .ok (.ifCond .ne 10, 3) := by decide +kernel
theorem dX5_valueAt_12 : decode cX5_valueAt 12 = .ok (.aload_n 0, 1) := by decide +kernel
theorem dX5_valueAt_13 : decode cX5_valueAt 13 = .ok (.getfield 9, 3) := by decide +kernel
theorem dX5_valueAt_16 : decode cX5_valueAt 16 = .ok (.iload_n 1, 1) := by decide +kernel
theorem dX5_valueAt_17 : decode cX5_valueAt 17 = .ok (.iaload, 1) := by decide +kernel
theorem dX5_valueAt_18 : decode cX5_valueAt 18 = .ok (.ireturn, 1) := by decide +kernel
theorem dX5_valueAt_19 : decode cX5_valueAt 19 = .ok (.iconst 0, 1) := by decide +kernel
theorem dX5_valueAt_20 : decode cX5_valueAt 20 = .ok (.istore_n 3, 1) := by decide +kernel
theorem dX5_valueAt_21 : decode cX5_valueAt 21 = .ok (.iload_n 1, 1) := by decide +kernel
theorem dX5_valueAt_22 : decode cX5_valueAt 22 = .ok (.istore 4, 2) := by decide +kernel
theorem dX5_valueAt_24 : decode cX5_valueAt 24 = .ok (.iload 4, 2) := by decide +kernel
theorem dX5_valueAt_26 : decode cX5_valueAt 26 = .ok (.iload_n 1, 1) := by decide +kernel
theorem dX5_valueAt_27 : decode cX5_valueAt 27 = .ok (.iload_n 2, 1) := by decide +kernel
theorem dX5_valueAt_28 : decode cX5_valueAt 28 = .ok (.iadd, 1) := by decide +kernel
theorem dX5_valueAt_29 : decode cX5_valueAt 29 = .ok (.if_icmp .ge 34, 3) := by decide +kernel
theorem dX5_valueAt_32 : decode cX5_valueAt 32 = .ok (.iload 4, 2) := by decide +kernel
theorem dX5_valueAt_34 : decode cX5_valueAt 34 = .ok (.aload_n 0, 1) := by decide +kernel
theorem dX5_valueAt_35 : decode cX5_valueAt 35 = .ok (.getfield 20, 3) := by decide +kernel
theorem dX5_valueAt_38 : decode cX5_valueAt 38 = .ok (.if_icmp .ge 25, 3) := by decide +kernel
theorem dX5_valueAt_41 : decode cX5_valueAt 41 = .ok (.bipush 10, 2) := by decide +kernel
theorem dX5_valueAt_43 : decode cX5_valueAt 43 = .ok (.iload_n 3, 1) := by decide +kernel
theorem dX5_valueAt_44 : decode cX5_valueAt 44 = .ok (.imul, 1) := by decide +kernel
theorem dX5_valueAt_45 : decode cX5_valueAt 45 = .ok (.aload_n 0, 1) := by decide +kernel
theorem dX5_valueAt_46 : decode cX5_valueAt 46 = .ok (.getfield 9, 3) := by decide +kernel
theorem dX5_valueAt_49 : decode cX5_valueAt 49 = .ok (.iload 4, 2) := by decide +kernel
theorem dX5_valueAt_51 : decode cX5_valueAt 51 = .ok (.iaload, 1) := by decide +kernel
theorem dX5_valueAt_52 : decode cX5_valueAt 52 = .ok (.iadd, 1) := by decide +kernel
theorem dX5_valueAt_53 : decode cX5_valueAt 53 = .ok (.bipush 48, 2) := by decide +kernel
theorem dX5_valueAt_55 : decode cX5_valueAt 55 = .ok (.isub, 1) := by decide +kernel
theorem dX5_valueAt_56 : decode cX5_valueAt 56 = .ok (.istore_n 3, 1) := by decide +kernel
theorem dX5_valueAt_57 : decode cX5_valueAt 57 = .ok (.iinc 4 1, 3) := by decide +kernel
theorem dX5_valueAt_60 : decode cX5_valueAt 60 = .ok (.goto (-36), 3) := by decide +kernel
theorem dX5_valueAt_63 : decode cX5_valueAt 63 = .ok (.iload_n 3, 1) := by decide +kernel
theorem dX5_valueAt_64 : decode cX5_valueAt 64 = .ok (.ireturn, 1) := by decide +kernel
theorem dX5_put_0 : decode cX5_put 0 = .ok (.aload_n 0, 1) := by decide +kernel
theorem dX5_put_1 : decode cX5_put 1 = .ok (.getfield 28, 3) := by decide +kernel
theorem dX5_put_4 : decode cX5_put 4 = .ok (.iconst 1, 1) := by decide +kernel
theorem dX5_put_5 : decode cX5_put 5 = .ok (.isub, 1) := by decide +kernel
theorem dX5_put_6 : decode cX5_put 6 = .ok (.istore_n 3, 1) := by decide +kernel
theorem dX5_put_7 : decode cX5_put 7 = .ok (.iload_n 1, 1) := by decide +kernel
theorem dX5_put_8 : decode cX5_put 8 = .ok (.iconst 1, 1) := by decide +kernel
theorem dX5_put_9 : decode cX5_put 9 = .ok (.if_icmp .ne 11, 3) := by decide +kernel
theorem dX5_put_12 : decode cX5_put 12 = .ok (.aload_n 0, 1) := by decide +kernel
theorem dX5_put_13 : decode cX5_put 13 = .ok (.iload_n 2, 1) := by decide +kernel
theorem dX5_put_14 : decode cX5_put 14 = .ok (.putfield 75, 3) := by decide +kernel
theorem dX5_put_17 : decode cX5_put 17 = .ok (.goto 89, 3) := by decide +kernel
theorem dX5_put_20 : decode cX5_put 20 = .ok (.iload_n 1, 1) := by decide +kernel
theorem dX5_put_21 : decode cX5_put 21 = .ok (.iconst 3, 1) := by decide +kernel
theorem dX5_put_22 : decode cX5_put 22 = .ok (.if_icmp .ne 11, 3) := by decide +kernel
theorem dX5_put_25 : decode cX5_put 25 = .ok (.aload_n 0, 1) := by decide +kernel
theorem dX5_put_26 : decode cX5_put 26 = .ok (.iload_n 2, 1) := by decide +kernel
theorem dX5_put_27 : decode cX5_put 27 = .ok (.putfield 78, 3) := by decide +kernel
theorem dX5_put_30 : decode cX5_put 30 = .ok (.goto 76, 3) := by decide +kernel
theorem dX5_put_33 : decode cX5_put 33 = .ok (.iload_n 1, 1) := by decide +kernel
theorem dX5_put_34 : decode cX5_put 34 = .ok (.iconst 5, 1) := by decide +kernel
theorem dX5_put_35 : decode cX5_put 35 = .ok (.if_icmp .ne 14, 3) := by decide +kernel
theorem dX5_put_38 : decode cX5_put 38 = .ok (.aload_n 0, 1) := by decide +kernel
theorem dX5_put_39 : decode cX5_put 39 = .ok (.iload_n 2, 1) := by decide +kernel
theorem dX5_put_40 : decode cX5_put 40 = .ok (.invokestatic 72, 3) := by decide +kernel
theorem dX5_put_43 : decode cX5_put 43 = .ok (.invokevirtual 81, 3) := by decide +kernel
theorem dX5_put_46 : decode cX5_put 46 = .ok (.goto 60, 3) := by decide +kernel
theorem dX5_put_49 : decode cX5_put 49 = .ok (.iload_n 3, 1) := by decide +kernel
theorem dX5_put_50 : decode cX5_put 50 = .ok (.ifCond .lt 19, 3) := by decide +kernel
theorem dX5_put_53 : decode cX5_put 53 = .ok (.iload_n 1, 1) := by decide +kernel
theorem dX5_put_54 : decode cX5_put 54 = .ok (.bipush 6, 2) := by decide +kernel
theorem dX5_put_56 : decode cX5_put 56 = .ok (.if_icmp .ne 13, 3) := by decide +kernel
theorem dX5_put_59 : decode cX5_put 59 = .ok (.aload_n 0, 1) := by decide +kernel
theorem dX5_put_60 : decode cX5_put 60 = .ok (.getfield 85, 3) := by decide +kernel
theorem dX5_put_63 : decode cX5_put 63 = .ok (.iload_n 3, 1) := by decide +kernel
theorem dX5_put_64 : decode cX5_put 64 = .ok (.iload_n 2, 1) := by decide +kernel
theorem dX5_put_65 : decode cX5_put 65 = .ok (.iastore, 1) := by decide +kernel
theorem dX5_put_66 : decode cX5_put 66 = .ok (.goto 40, 3) := by decide +kernel
theorem dX5_put_69 : decode cX5_put 69 = .ok (.iload_n 3, 1) := by decide +kernel
theorem dX5_put_70 : decode cX5_put 70 = .ok (.ifCond .lt 19, 3) := by decide +kernel
theorem dX5_put_73 : decode cX5_put 73 = .ok (.iload_n 1, 1) := by decide +kernel
theorem dX5_put_74 : decode cX5_put 74 = .ok (.bipush 8, 2) := by decide +kernel
theorem dX5_put_76 : decode cX5_put 76 = .ok (.if_icmp .ne 13, 3) := by decide +kernel
theorem dX5_put_79 : decode cX5_put 79 = .ok (.aload_n 0, 1) := by decide +kernel
theorem dX5_put_80 : decode cX5_put 80 = .ok (.getfield 88, 3) := by decide +kernel
theorem dX5_put_83 : decode cX5_put 83 = .ok (.iload_n 3, 1) := by decide +kernel
theorem dX5_put_84 : decode cX5_put 84 = .ok (.iload_n 2, 1) := by decide +kernel
theorem dX5_put_85 : decode cX5_put 85 = .ok (.iastore, 1) := by decide +kernel
theorem dX5_put_86 : decode cX5_put 86 = .ok (.goto 20, 3) := by decide +kernel
theorem dX5_put_89 : decode cX5_put 89 = .ok (.iload_n 3, 1) := by decide +kernel
theorem dX5_put_90 : decode cX5_put 90 = .ok (.ifCond .lt 16, 3) := by decide +kernel
theorem dX5_put_93 : decode cX5_put 93 = .ok (.iload_n 1, 1) := by decide +kernel
theorem dX5_put_94 : decode cX5_put 94 = .ok (.bipush 10, 2) := by decide +kernel
theorem dX5_put_96 : decode cX5_put 96 = .ok (.if_icmp .ne 10, 3) := by decide +kernel
theorem dX5_put_99 : decode cX5_put 99 = .ok (.aload_n 0, 1) := by decide +kernel
theorem dX5_put_100 : decode cX5_put 100 = .ok (.getfield 91, 3) := by decide +kernel
theorem dX5_put_103 : decode cX5_put 103 = .ok (.iload_n 3, 1) := by decide +kernel
theorem dX5_put_104 : decode cX5_put 104 = .ok (.iload_n 2, 1) := by decide +kernel
theorem dX5_put_105 : decode cX5_put 105 = .ok (.iastore, 1) := by decide +kernel
theorem dX5_put_106 : decode cX5_put 106 = .ok (.return_, 1) := by decide +kernel
theorem dX5_isFigure_0 : decode cX5_isFigure 0 = .ok (.iload_n 0, 1) := by decide +kernel
theorem dX5_isFigure_1 : decode cX5_isFigure 1 = .ok (.bipush 48, 2) := by decide +kernel
theorem dX5_isFigure_3 : decode cX5_isFigure 3 = .ok (.if_icmp .lt 13, 3) := by decide +kernel
theorem dX5_isFigure_6 : decode cX5_isFigure 6 = .ok (.iload_n 0, 1) := by decide +kernel
theorem dX5_isFigure_7 : decode cX5_isFigure 7 = .ok (.bipush 57, 2) := by decide +kernel
theorem dX5_isFigure_9 : decode cX5_isFigure 9 = .ok (.if_icmp .gt 7, 3) := by decide +kernel
theorem dX5_isFigure_12 : decode cX5_isFigure 12 = .ok (.iconst 1, 1) := by decide +kernel
theorem dX5_isFigure_13 : decode cX5_isFigure 13 = .ok (.goto 4, 3) := by decide +kernel
theorem dX5_isFigure_16 : decode cX5_isFigure 16 = .ok (.iconst 0, 1) := by decide +kernel
theorem dX5_isFigure_17 : decode cX5_isFigure 17 = .ok (.ireturn, 1) := by decide +kernel
theorem dX5_kindOf_0 : decode cX5_kindOf 0 = .ok (.iload_n 0, 1) := by decide +kernel
theorem dX5_kindOf_1 : decode cX5_kindOf 1 = .ok (.lookupswitch 61 #[(100, 57), (108, 53), (112, 51), (115, 55), (116, 59)], 51) := by decide +kernel
theorem dX5_kindOf_52 : decode cX5_kindOf 52 = .ok (.iconst 1, 1) := by decide +kernel
theorem dX5_kindOf_53 : decode cX5_kindOf 53 = .ok (.ireturn, 1) := by decide +kernel
theorem dX5_kindOf_54 : decode cX5_kindOf 54 = .ok (.iconst 2, 1) := by decide +kernel
theorem dX5_kindOf_55 : decode cX5_kindOf 55 = .ok (.ireturn, 1) := by decide +kernel
theorem dX5_kindOf_56 : decode cX5_kindOf 56 = .ok (.iconst 3, 1) := by decide +kernel
theorem dX5_kindOf_57 : decode cX5_kindOf 57 = .ok (.ireturn, 1) := by decide +kernel
theorem dX5_kindOf_58 : decode cX5_kindOf 58 = .ok (.iconst 4, 1) := by decide +kernel
theorem dX5_kindOf_59 : decode cX5_kindOf 59 = .ok (.ireturn, 1) := by decide +kernel
theorem dX5_kindOf_60 : decode cX5_kindOf 60 = .ok (.iconst 5, 1) := by decide +kernel
theorem dX5_kindOf_61 : decode cX5_kindOf 61 = .ok (.ireturn, 1) := by decide +kernel
theorem dX5_kindOf_62 : decode cX5_kindOf 62 = .ok (.iconst 0, 1) := by decide +kernel
theorem dX5_kindOf_63 : decode cX5_kindOf 63 = .ok (.ireturn, 1) := by decide +kernel
theorem dJ6_bitCount_0f7a4_0 : decode cJ6_bitCount_0f7a4 0 = .ok (.iload_n 0, 1) := by decide +kernel
theorem dJ6_bitCount_0f7a4_1 : decode cJ6_bitCount_0f7a4 1 = .ok (.iload_n 0, 1) := by decide +kernel
theorem dJ6_bitCount_0f7a4_2 : decode cJ6_bitCount_0f7a4 2 = .ok (.iconst 1, 1) := by decide +kernel
theorem dJ6_bitCount_0f7a4_3 : decode cJ6_bitCount_0f7a4 3 = .ok (.iushr, 1) := by decide +kernel
theorem dJ6_bitCount_0f7a4_4 : decode cJ6_bitCount_0f7a4 4 = .ok (.ldc_w 265, 3) := by decide +kernel
theorem dJ6_bitCount_0f7a4_7 : decode cJ6_bitCount_0f7a4 7 = .ok (.iand, 1) := by decide +kernel
theorem dJ6_bitCount_0f7a4_8 : decode cJ6_bitCount_0f7a4 8 = .ok (.isub, 1) := by decide +kernel
theorem dJ6_bitCount_0f7a4_9 : decode cJ6_bitCount_0f7a4 9 = .ok (.istore_n 0, 1) := by decide +kernel
theorem dJ6_bitCount_0f7a4_10 : decode cJ6_bitCount_0f7a4 10 = .ok (.iload_n 0, 1) := by decide +kernel
theorem dJ6_bitCount_0f7a4_11 : decode cJ6_bitCount_0f7a4 11 = .ok (.ldc_w 266, 3) := by decide +kernel
theorem dJ6_bitCount_0f7a4_14 : decode cJ6_bitCount_0f7a4 14 = .ok (.iand, 1) := by decide +kernel
theorem dJ6_bitCount_0f7a4_15 : decode cJ6_bitCount_0f7a4 15 = .ok (.iload_n 0, 1) := by decide +kernel
theorem dJ6_bitCount_0f7a4_16 : decode cJ6_bitCount_0f7a4 16 = .ok (.iconst 2, 1) := by decide +kernel
theorem dJ6_bitCount_0f7a4_17 : decode cJ6_bitCount_0f7a4 17 = .ok (.iushr, 1) := by decide +kernel
theorem dJ6_bitCount_0f7a4_18 : decode cJ6_bitCount_0f7a4 18 = .ok (.ldc_w 266, 3) := by decide +kernel
theorem dJ6_bitCount_0f7a4_21 : decode cJ6_bitCount_0f7a4 21 = .ok (.iand, 1) := by decide +kernel
theorem dJ6_bitCount_0f7a4_22 : decode cJ6_bitCount_0f7a4 22 = .ok (.iadd, 1) := by decide +kernel
theorem dJ6_bitCount_0f7a4_23 : decode cJ6_bitCount_0f7a4 23 = .ok (.istore_n 0, 1) := by decide +kernel
theorem dJ6_bitCount_0f7a4_24 : decode cJ6_bitCount_0f7a4 24 = .ok (.iload_n 0, 1) := by decide +kernel
theorem dJ6_bitCount_0f7a4_25 : decode cJ6_bitCount_0f7a4 25 = .ok (.iload_n 0, 1) := by decide +kernel
theorem dJ6_bitCount_0f7a4_26 : decode cJ6_bitCount_0f7a4 26 = .ok (.iconst 4, 1) := by decide +kernel
theorem dJ6_bitCount_0f7a4_27 : decode cJ6_bitCount_0f7a4 27 = .ok (.iushr, 1) := by decide +kernel
theorem dJ6_bitCount_0f7a4_28 : decode cJ6_bitCount_0f7a4 28 = .ok (.iadd, 1) := by decide +kernel
theorem dJ6_bitCount_0f7a4_29 : decode cJ6_bitCount_0f7a4 29 = .ok (.ldc_w 267, 3) := by decide +kernel
theorem dJ6_bitCount_0f7a4_32 : decode cJ6_bitCount_0f7a4 32 = .ok (.iand, 1) := by decide +kernel
theorem dJ6_bitCount_0f7a4_33 : decode cJ6_bitCount_0f7a4 33 = .ok (.istore_n 0, 1) := by decide +kernel
theorem dJ6_bitCount_0f7a4_34 : decode cJ6_bitCount_0f7a4 34 = .ok (.iload_n 0, 1) := by decide +kernel
theorem dJ6_bitCount_0f7a4_35 : decode cJ6_bitCount_0f7a4 35 = .ok (.iload_n 0, 1) := by decide +kernel
theorem dJ6_bitCount_0f7a4_36 : decode cJ6_bitCount_0f7a4 36 = .ok (.bipush 8, 2) := by decide +kernel
theorem dJ6_bitCount_0f7a4_38 : decode cJ6_bitCount_0f7a4 38 = .ok (.iushr, 1) := by decide +kernel
theorem dJ6_bitCount_0f7a4_39 : decode cJ6_bitCount_0f7a4 39 = .ok (.iadd, 1) := by decide +kernel
theorem dJ6_bitCount_0f7a4_40 : decode cJ6_bitCount_0f7a4 40 = .ok (.istore_n 0, 1) := by decide +kernel
theorem dJ6_bitCount_0f7a4_41 : decode cJ6_bitCount_0f7a4 41 = .ok (.iload_n 0, 1) := by decide +kernel
theorem dJ6_bitCount_0f7a4_42 : decode cJ6_bitCount_0f7a4 42 = .ok (.iload_n 0, 1) := by decide +kernel
theorem dJ6_bitCount_0f7a4_43 : decode cJ6_bitCount_0f7a4 43 = .ok (.bipush 16, 2) := by decide +kernel
theorem dJ6_bitCount_0f7a4_45 : decode cJ6_bitCount_0f7a4 45 = .ok (.iushr, 1) := by decide +kernel
theorem dJ6_bitCount_0f7a4_46 : decode cJ6_bitCount_0f7a4 46 = .ok (.iadd, 1) := by decide +kernel
theorem dJ6_bitCount_0f7a4_47 : decode cJ6_bitCount_0f7a4 47 = .ok (.istore_n 0, 1) := by decide +kernel
theorem dJ6_bitCount_0f7a4_48 : decode cJ6_bitCount_0f7a4 48 = .ok (.iload_n 0, 1) := by decide +kernel
theorem dJ6_bitCount_0f7a4_49 : decode cJ6_bitCount_0f7a4 49 = .ok (.bipush 63, 2) := by decide +kernel
theorem dJ6_bitCount_0f7a4_51 : decode cJ6_bitCount_0f7a4 51 = .ok (.iand, 1) := by decide +kernel
theorem dJ6_bitCount_0f7a4_52 : decode cJ6_bitCount_0f7a4 52 = .ok (.ireturn, 1) := by decide +kernel
theorem dJ9_abs_0f7a4_0 : decode cJ9_abs_0f7a4 0 = .ok (.iload_n 0, 1) := by decide +kernel
theorem dJ9_abs_0f7a4_1 : decode cJ9_abs_0f7a4 1 = .ok (.ifCond .ge 8, 3) := by decide +kernel
theorem dJ9_abs_0f7a4_4 : decode cJ9_abs_0f7a4 4 = .ok (.iload_n 0, 1) := by decide +kernel
theorem dJ9_abs_0f7a4_5 : decode cJ9_abs_0f7a4 5 = .ok (.ineg, 1) := by decide +kernel
theorem dJ9_abs_0f7a4_6 : decode cJ9_abs_0f7a4 6 = .ok (.goto 4, 3) := by decide +kernel
theorem dJ9_abs_0f7a4_9 : decode cJ9_abs_0f7a4 9 = .ok (.iload_n 0, 1) := by decide +kernel
theorem dJ9_abs_0f7a4_10 : decode cJ9_abs_0f7a4 10 = .ok (.ireturn, 1) := by decide +kernel
theorem dJ9_max_7cf53_0 : decode cJ9_max_7cf53 0 = .ok (.iload_n 0, 1) := by decide +kernel
theorem dJ9_max_7cf53_1 : decode cJ9_max_7cf53 1 = .ok (.iload_n 1, 1) := by decide +kernel
theorem dJ9_max_7cf53_2 : decode cJ9_max_7cf53 2 = .ok (.if_icmp .lt 7, 3) := by decide +kernel
theorem dJ9_max_7cf53_5 : decode cJ9_max_7cf53 5 = .ok (.iload_n 0, 1) := by decide +kernel
theorem dJ9_max_7cf53_6 : decode cJ9_max_7cf53 6 = .ok (.goto 4, 3) := by decide +kernel
theorem dJ9_max_7cf53_9 : decode cJ9_max_7cf53 9 = .ok (.iload_n 1, 1) := by decide +kernel
theorem dJ9_max_7cf53_10 : decode cJ9_max_7cf53 10 = .ok (.ireturn, 1) := by decide +kernel
theorem dJ9_min_7cf53_0 : decode cJ9_min_7cf53 0 = .ok (.iload_n 0, 1) := by decide +kernel
theorem dJ9_min_7cf53_1 : decode cJ9_min_7cf53 1 = .ok (.iload_n 1, 1) := by decide +kernel
theorem dJ9_min_7cf53_2 : decode cJ9_min_7cf53 2 = .ok (.if_icmp .gt 7, 3) := by decide +kernel
theorem dJ9_min_7cf53_5 : decode cJ9_min_7cf53 5 = .ok (.iload_n 0, 1) := by decide +kernel
theorem dJ9_min_7cf53_6 : decode cJ9_min_7cf53 6 = .ok (.goto 4, 3) := by decide +kernel
theorem dJ9_min_7cf53_9 : decode cJ9_min_7cf53 9 = .ok (.iload_n 1, 1) := by decide +kernel
theorem dJ9_min_7cf53_10 : decode cJ9_min_7cf53 10 = .ok (.ireturn, 1) := by decide +kernel

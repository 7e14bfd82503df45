/-! what stands at each place of the code -/
theorem dX6_asleep_2 : decode cX6_asleep 2 = .ok (.invokevirtual 155, 3) := by decide +kernel
theorem dX6_asleep_5 : decode cX6_asleep 5 = .ok (.ifCond .eq 8, 3) := by decide +kernel
theorem dX6_asleep_8 : decode cX6_asleep 8 = .ok (.ldc 66, 2) := by decide +kernel
theorem dX6_asleep_10 : decode cX6_asleep 10 = .ok (.goto 17, 3) := by decide +kernel
theorem dX6_asleep_13 : decode cX6_asleep 13 = .ok (.aload_n 0, 1) := by decide +kernel
theorem dX6_asleep_14 : decode cX6_asleep 14 = .ok (.getfield 46, 3) := by decide +kernel
theorem dX6_asleep_17 : decode cX6_asleep 17 = .ok (.aload_n 0, 1) := by decide +kernel
theorem dX6_asleep_18 : decode cX6_asleep 18 = .ok (.getfield 25, 3) := by decide +kernel
theorem dX6_asleep_21 : decode cX6_asleep 21 = .ok (.iconst 1, 1) := by decide +kernel
theorem dX6_asleep_22 : decode cX6_asleep 22 = .ok (.iload_n 1, 1) := by decide +kernel
theorem dX6_asleep_23 : decode cX6_asleep 23 = .ok (.ishl, 1) := by decide +kernel
theorem dX6_asleep_24 : decode cX6_asleep 24 = .ok (.invokevirtual 213, 3) := by decide +kernel
theorem dX6_asleep_27 : decode cX6_asleep 27 = .ok (.ireturn, 1) := by decide +kernel
theorem dX6_allAsleep_0 : decode cX6_allAsleep 0 = .ok (.aload_n 0, 1) := by decide +kernel
theorem dX6_allAsleep_1 : decode cX6_allAsleep 1 = .ok (.invokevirtual 139, 3) := by decide +kernel
theorem dX6_allAsleep_4 : decode cX6_allAsleep 4 = .ok (.ifCond .eq 8, 3) := by decide +kernel
theorem dX6_allAsleep_7 : decode cX6_allAsleep 7 = .ok (.ldc 135, 2) := by decide +kernel
theorem dX6_allAsleep_9 : decode cX6_allAsleep 9 = .ok (.goto 31, 3) := by decide +kernel
theorem dX6_allAsleep_12 : decode cX6_allAsleep 12 = .ok (.aload_n 0, 1) := by decide +kernel
theorem dX6_allAsleep_13 : decode cX6_allAsleep 13 = .ok (.getfield 46, 3) := by decide +kernel
theorem dX6_allAsleep_16 : decode cX6_allAsleep 16 = .ok (.aload_n 0, 1) := by decide +kernel
theorem dX6_allAsleep_17 : decode cX6_allAsleep 17 = .ok (.getfield 25, 3) := by decide +kernel
theorem dX6_allAsleep_20 : decode cX6_allAsleep 20 = .ok (.aload_n 0, 1) := by decide +kernel
theorem dX6_allAsleep_21 : decode cX6_allAsleep 21 = .ok (.getfield 25, 3) := by decide +kernel
theorem dX6_allAsleep_24 : decode cX6_allAsleep 24 = .ok (.invokevirtual 217, 3) := by decide +kernel
theorem dX6_allAsleep_27 : decode cX6_allAsleep 27 = .ok (.aload_n 0, 1) := by decide +kernel
theorem dX6_allAsleep_28 : decode cX6_allAsleep 28 = .ok (.getfield 25, 3) := by decide +kernel
theorem dX6_allAsleep_31 : decode cX6_allAsleep 31 = .ok (.getfield 172, 3) := by decide +kernel
theorem dX6_allAsleep_34 : decode cX6_allAsleep 34 = .ok (.iconst (-1), 1) := by decide +kernel
theorem dX6_allAsleep_35 : decode cX6_allAsleep 35 = .ok (.ixor, 1) := by decide +kernel
theorem dX6_allAsleep_36 : decode cX6_allAsleep 36 = .ok (.iand, 1) := by decide +kernel
theorem dX6_allAsleep_37 : decode cX6_allAsleep 37 = .ok (.invokevirtual 213, 3) := by decide +kernel
theorem dX6_allAsleep_40 : decode cX6_allAsleep 40 = .ok (.ireturn, 1) := by decide +kernel
theorem dX6_dinner_0 : decode cX6_dinner 0 = .ok (.aload_n 0, 1) := by decide +kernel
theorem dX6_dinner_1 : decode cX6_dinner 1 = .ok (.invokevirtual 139, 3) := by decide +kernel
theorem dX6_dinner_4 : decode cX6_dinner 4 = .ok (.ifCond .eq 6, 3) := by decide +kernel
theorem dX6_dinner_7 : decode cX6_dinner 7 = .ok (.ldc 135, 2) := by decide +kernel
theorem dX6_dinner_9 : decode cX6_dinner 9 = .ok (.ireturn, 1) := by decide +kernel
theorem dX6_dinner_10 : decode cX6_dinner 10 = .ok (.iload_n 1, 1) := by decide +kernel
theorem dX6_dinner_11 : decode cX6_dinner 11 = .ok (.iconst 1, 1) := by decide +kernel
theorem dX6_dinner_12 : decode cX6_dinner 12 = .ok (.bipush 60, 2) := by decide +kernel
theorem dX6_dinner_14 : decode cX6_dinner 14 = .ok (.invokestatic 62, 3) := by decide +kernel
theorem dX6_dinner_17 : decode cX6_dinner 17 = .ok (.ifCond .eq 8, 3) := by decide +kernel
theorem dX6_dinner_20 : decode cX6_dinner 20 = .ok (.ldc 66, 2) := by decide +kernel
theorem dX6_dinner_22 : decode cX6_dinner 22 = .ok (.goto 15, 3) := by decide +kernel
theorem dX6_dinner_25 : decode cX6_dinner 25 = .ok (.aload_n 0, 1) := by decide +kernel
theorem dX6_dinner_26 : decode cX6_dinner 26 = .ok (.getfield 46, 3) := by decide +kernel
theorem dX6_dinner_29 : decode cX6_dinner 29 = .ok (.aload_n 0, 1) := by decide +kernel
theorem dX6_dinner_30 : decode cX6_dinner 30 = .ok (.getfield 25, 3) := by decide +kernel
theorem dX6_dinner_33 : decode cX6_dinner 33 = .ok (.iload_n 1, 1) := by decide +kernel
theorem dX6_dinner_34 : decode cX6_dinner 34 = .ok (.invokevirtual 220, 3) := by decide +kernel
theorem dX6_dinner_37 : decode cX6_dinner 37 = .ok (.ireturn, 1) := by decide +kernel
theorem dX6_hands_0 : decode cX6_hands 0 = .ok (.aload_n 0, 1) := by decide +kernel
theorem dX6_hands_1 : decode cX6_hands 1 = .ok (.invokevirtual 139, 3) := by decide +kernel
theorem dX6_hands_4 : decode cX6_hands 4 = .ok (.ifCond .eq 6, 3) := by decide +kernel
theorem dX6_hands_7 : decode cX6_hands 7 = .ok (.ldc 135, 2) := by decide +kernel
theorem dX6_hands_9 : decode cX6_hands 9 = .ok (.ireturn, 1) := by decide +kernel
theorem dX6_hands_10 : decode cX6_hands 10 = .ok (.iload_n 1, 1) := by decide +kernel
theorem dX6_hands_11 : decode cX6_hands 11 = .ok (.iconst 1, 1) := by decide +kernel
theorem dX6_hands_12 : decode cX6_hands 12 = .ok (.bipush 30, 2) := by decide +kernel
theorem dX6_hands_14 : decode cX6_hands 14 = .ok (.invokestatic 62, 3) := by decide +kernel
theorem dX6_hands_17 : decode cX6_hands 17 = .ok (.ifCond .ne 12, 3) := by decide +kernel
theorem dX6_hands_20 : decode cX6_hands 20 = .ok (.iload_n 2, 1) := by decide +kernel
theorem dX6_hands_21 : decode cX6_hands 21 = .ok (.iconst 0, 1) := by decide +kernel
theorem dX6_hands_22 : decode cX6_hands 22 = .ok (.iconst 1, 1) := by decide +kernel
theorem dX6_hands_23 : decode cX6_hands 23 = .ok (.invokestatic 62, 3) := by decide +kernel
theorem dX6_hands_26 : decode cX6_hands 26 = .ok (.ifCond .eq 6, 3) := by decide +kernel
theorem dX6_hands_29 : decode cX6_hands 29 = .ok (.ldc 66, 2) := by decide +kernel
theorem dX6_hands_31 : decode cX6_hands 31 = .ok (.ireturn, 1) := by decide +kernel
theorem dX6_hands_32 : decode cX6_hands 32 = .ok (.aload_n 0, 1) := by decide +kernel
theorem dX6_hands_33 : decode cX6_hands 33 = .ok (.getfield 46, 3) := by decide +kernel
theorem dX6_hands_36 : decode cX6_hands 36 = .ok (.aload_n 0, 1) := by decide +kernel
theorem dX6_hands_37 : decode cX6_hands 37 = .ok (.getfield 25, 3) := by decide +kernel
theorem dX6_hands_40 : decode cX6_hands 40 = .ok (.iload_n 1, 1) := by decide +kernel
theorem dX6_hands_41 : decode cX6_hands 41 = .ok (.invokevirtual 223, 3) := by decide +kernel
theorem dX6_hands_44 : decode cX6_hands 44 = .ok (.iload_n 2, 1) := by decide +kernel
theorem dX6_hands_45 : decode cX6_hands 45 = .ok (.ifCond .ne 13, 3) := by decide +kernel
theorem dX6_hands_48 : decode cX6_hands 48 = .ok (.aload_n 0, 1) := by decide +kernel
theorem dX6_hands_49 : decode cX6_hands 49 = .ok (.getfield 46, 3) := by decide +kernel
theorem dX6_hands_52 : decode cX6_hands 52 = .ok (.getfield 227, 3) := by decide +kernel
theorem dX6_hands_55 : decode cX6_hands 55 = .ok (.goto 10, 3) := by decide +kernel
theorem dX6_hands_58 : decode cX6_hands 58 = .ok (.aload_n 0, 1) := by decide +kernel
theorem dX6_hands_59 : decode cX6_hands 59 = .ok (.getfield 46, 3) := by decide +kernel
theorem dX6_hands_62 : decode cX6_hands 62 = .ok (.getfield 230, 3) := by decide +kernel
theorem dX6_hands_65 : decode cX6_hands 65 = .ok (.ireturn, 1) := by decide +kernel
theorem dX6_outs_0 : decode cX6_outs 0 = .ok (.aload_n 0, 1) := by decide +kernel
theorem dX6_outs_1 : decode cX6_outs 1 = .ok (.invokevirtual 139, 3) := by decide +kernel
theorem dX6_outs_4 : decode cX6_outs 4 = .ok (.ifCond .eq 6, 3) := by decide +kernel
theorem dX6_outs_7 : decode cX6_outs 7 = .ok (.ldc 135, 2) := by decide +kernel
theorem dX6_outs_9 : decode cX6_outs 9 = .ok (.ireturn, 1) := by decide +kernel
theorem dX6_outs_10 : decode cX6_outs 10 = .ok (.iload_n 1, 1) := by decide +kernel
theorem dX6_outs_11 : decode cX6_outs 11 = .ok (.iconst 1, 1) := by decide +kernel
theorem dX6_outs_12 : decode cX6_outs 12 = .ok (.bipush 30, 2) := by decide +kernel
theorem dX6_outs_14 : decode cX6_outs 14 = .ok (.invokestatic 62, 3) := by decide +kernel
theorem dX6_outs_17 : decode cX6_outs 17 = .ok (.ifCond .ne 12, 3) := by decide +kernel
theorem dX6_outs_20 : decode cX6_outs 20 = .ok (.iload_n 2, 1) := by decide +kernel
theorem dX6_outs_21 : decode cX6_outs 21 = .ok (.iconst 0, 1) := by decide +kernel
theorem dX6_outs_22 : decode cX6_outs 22 = .ok (.iconst 1, 1) := by decide +kernel
theorem dX6_outs_23 : decode cX6_outs 23 = .ok (.invokestatic 62, 3) := by decide +kernel
theorem dX6_outs_26 : decode cX6_outs 26 = .ok (.ifCond .eq 6, 3) := by decide +kernel
theorem dX6_outs_29 : decode cX6_outs 29 = .ok (.ldc 66, 2) := by decide +kernel
theorem dX6_outs_31 : decode cX6_outs 31 = .ok (.ireturn, 1) := by decide +kernel
theorem dX6_outs_32 : decode cX6_outs 32 = .ok (.aload_n 0, 1) := by decide +kernel
theorem dX6_outs_33 : decode cX6_outs 33 = .ok (.getfield 46, 3) := by decide +kernel
theorem dX6_outs_36 : decode cX6_outs 36 = .ok (.aload_n 0, 1) := by decide +kernel
theorem dX6_outs_37 : decode cX6_outs 37 = .ok (.getfield 25, 3) := by decide +kernel
theorem dX6_outs_40 : decode cX6_outs 40 = .ok (.iload_n 1, 1) := by decide +kernel
theorem dX6_outs_41 : decode cX6_outs 41 = .ok (.invokevirtual 233, 3) := by decide +kernel
theorem dX6_outs_44 : decode cX6_outs 44 = .ok (.istore_n 3, 1) := by decide +kernel
theorem dX6_outs_45 : decode cX6_outs 45 = .ok (.iload_n 2, 1) := by decide +kernel
theorem dX6_outs_46 : decode cX6_outs 46 = .ok (.ifCond .ne 10, 3) := by decide +kernel
theorem dX6_outs_49 : decode cX6_outs 49 = .ok (.iload_n 3, 1) := by decide +kernel
theorem dX6_outs_50 : decode cX6_outs 50 = .ok (.invokestatic 164, 3) := by decide +kernel
theorem dX6_outs_53 : decode cX6_outs 53 = .ok (.goto 4, 3) := by decide +kernel
theorem dX6_outs_56 : decode cX6_outs 56 = .ok (.iload_n 3, 1) := by decide +kernel
theorem dX6_outs_57 : decode cX6_outs 57 = .ok (.ireturn, 1) := by decide +kernel
theorem dX6_best_0 : decode cX6_best 0 = .ok (.aload_n 0, 1) := by decide +kernel
theorem dX6_best_1 : decode cX6_best 1 = .ok (.invokevirtual 139, 3) := by decide +kernel
theorem dX6_best_4 : decode cX6_best 4 = .ok (.ifCond .eq 6, 3) := by decide +kernel
theorem dX6_best_7 : decode cX6_best 7 = .ok (.ldc 135, 2) := by decide +kernel
theorem dX6_best_9 : decode cX6_best 9 = .ok (.ireturn, 1) := by decide +kernel
theorem dX6_best_10 : decode cX6_best 10 = .ok (.iload_n 1, 1) := by decide +kernel
theorem dX6_best_11 : decode cX6_best 11 = .ok (.iconst 1, 1) := by decide +kernel
theorem dX6_best_12 : decode cX6_best 12 = .ok (.bipush 30, 2) := by decide +kernel
theorem dX6_best_14 : decode cX6_best 14 = .ok (.invokestatic 62, 3) := by decide +kernel
theorem dX6_best_17 : decode cX6_best 17 = .ok (.ifCond .ne 12, 3) := by decide +kernel
theorem dX6_best_20 : decode cX6_best 20 = .ok (.iload_n 2, 1) := by decide +kernel
theorem dX6_best_21 : decode cX6_best 21 = .ok (.iconst 0, 1) := by decide +kernel
theorem dX6_best_22 : decode cX6_best 22 = .ok (.iconst 1, 1) := by decide +kernel
theorem dX6_best_23 : decode cX6_best 23 = .ok (.invokestatic 62, 3) := by decide +kernel
theorem dX6_best_26 : decode cX6_best 26 = .ok (.ifCond .eq 6, 3) := by decide +kernel
theorem dX6_best_29 : decode cX6_best 29 = .ok (.ldc 66, 2) := by decide +kernel
theorem dX6_best_31 : decode cX6_best 31 = .ok (.ireturn, 1) := by decide +kernel
theorem dX6_best_32 : decode cX6_best 32 = .ok (.aload_n 0, 1) := by decide +kernel
theorem dX6_best_33 : decode cX6_best 33 = .ok (.getfield 25, 3) := by decide +kernel
theorem dX6_best_36 : decode cX6_best 36 = .ok (.getfield 131, 3) := by decide +kernel
theorem dX6_best_39 : decode cX6_best 39 = .ok (.iconst 2, 1) := by decide +kernel
theorem dX6_best_40 : decode cX6_best 40 = .ok (.if_icmp .ge 6, 3) := by decide +kernel
theorem dX6_best_43 : decode cX6_best 43 = .ok (.ldc 236, 2) := by decide +kernel
theorem dX6_best_45 : decode cX6_best 45 = .ok (.ireturn, 1) := by decide +kernel
theorem dX6_best_46 : decode cX6_best 46 = .ok (.aload_n 0, 1) := by decide +kernel
theorem dX6_best_47 : decode cX6_best 47 = .ok (.getfield 46, 3) := by decide +kernel
theorem dX6_best_50 : decode cX6_best 50 = .ok (.aload_n 0, 1) := by decide +kernel
theorem dX6_best_51 : decode cX6_best 51 = .ok (.getfield 25, 3) := by decide +kernel
theorem dX6_best_54 : decode cX6_best 54 = .ok (.iload_n 1, 1) := by decide +kernel
theorem dX6_best_55 : decode cX6_best 55 = .ok (.invokevirtual 237, 3) := by decide +kernel
theorem dX6_best_58 : decode cX6_best 58 = .ok (.iload_n 2, 1) := by decide +kernel
theorem dX6_best_59 : decode cX6_best 59 = .ok (.ifCond .ne 13, 3) := by decide +kernel
theorem dX6_best_62 : decode cX6_best 62 = .ok (.aload_n 0, 1) := by decide +kernel
theorem dX6_best_63 : decode cX6_best 63 = .ok (.getfield 46, 3) := by decide +kernel
theorem dX6_best_66 : decode cX6_best 66 = .ok (.getfield 230, 3) := by decide +kernel
theorem dX6_best_69 : decode cX6_best 69 = .ok (.goto 10, 3) := by decide +kernel
theorem dX6_best_72 : decode cX6_best 72 = .ok (.aload_n 0, 1) := by decide +kernel
theorem dX6_best_73 : decode cX6_best 73 = .ok (.getfield 46, 3) := by decide +kernel
theorem dX6_best_76 : decode cX6_best 76 = .ok (.getfield 227, 3) := by decide +kernel
theorem dX6_best_79 : decode cX6_best 79 = .ok (.ireturn, 1) := by decide +kernel
theorem dX6_silence_0 : decode cX6_silence 0 = .ok (.aload_n 0, 1) := by decide +kernel
theorem dX6_silence_1 : decode cX6_silence 1 = .ok (.invokevirtual 139, 3) := by decide +kernel
theorem dX6_silence_4 : decode cX6_silence 4 = .ok (.ifCond .eq 8, 3) := by decide +kernel
theorem dX6_silence_7 : decode cX6_silence 7 = .ok (.ldc 135, 2) := by decide +kernel
theorem dX6_silence_9 : decode cX6_silence 9 = .ok (.goto 10, 3) := by decide +kernel
theorem dX6_silence_12 : decode cX6_silence 12 = .ok (.aload_n 0, 1) := by decide +kernel
theorem dX6_silence_13 : decode cX6_silence 13 = .ok (.getfield 25, 3) := by decide +kernel
theorem dX6_silence_16 : decode cX6_silence 16 = .ok (.invokevirtual 240, 3) := by decide +kernel
theorem dX6_silence_19 : decode cX6_silence 19 = .ok (.ireturn, 1) := by decide +kernel
theorem dX6_wakes_0 : decode cX6_wakes 0 = .ok (.aload_n 0, 1) := by decide +kernel
theorem dX6_wakes_1 : decode cX6_wakes 1 = .ok (.iload_n 1, 1) := by decide +kernel
theorem dX6_wakes_2 : decode cX6_wakes 2 = .ok (.invokevirtual 155, 3) := by decide +kernel
theorem dX6_wakes_5 : decode cX6_wakes 5 = .ok (.ifCond .eq 6, 3) := by decide +kernel
theorem dX6_wakes_8 : decode cX6_wakes 8 = .ok (.ldc 66, 2) := by decide +kernel
theorem dX6_wakes_10 : decode cX6_wakes 10 = .ok (.ireturn, 1) := by decide +kernel
theorem dX6_wakes_11 : decode cX6_wakes 11 = .ok (.aload_n 0, 1) := by decide +kernel
theorem dX6_wakes_12 : decode cX6_wakes 12 = .ok (.getfield 25, 3) := by decide +kernel
theorem dX6_wakes_15 : decode cX6_wakes 15 = .ok (.getfield 172, 3) := by decide +kernel
theorem dX6_wakes_18 : decode cX6_wakes 18 = .ok (.iload_n 1, 1) := by decide +kernel
theorem dX6_wakes_19 : decode cX6_wakes 19 = .ok (.invokestatic 161, 3) := by decide +kernel
theorem dX6_wakes_22 : decode cX6_wakes 22 = .ok (.ifCond .eq 8, 3) := by decide +kernel
theorem dX6_wakes_25 : decode cX6_wakes 25 = .ok (.ldc 135, 2) := by decide +kernel
theorem dX6_wakes_27 : decode cX6_wakes 27 = .ok (.goto 15, 3) := by decide +kernel
theorem dX6_wakes_30 : decode cX6_wakes 30 = .ok (.aload_n 0, 1) := by decide +kernel
theorem dX6_wakes_31 : decode cX6_wakes 31 = .ok (.getfield 46, 3) := by decide +kernel
theorem dX6_wakes_34 : decode cX6_wakes 34 = .ok (.aload_n 0, 1) := by decide +kernel
theorem dX6_wakes_35 : decode cX6_wakes 35 = .ok (.getfield 25, 3) := by decide +kernel
theorem dX6_wakes_38 : decode cX6_wakes 38 = .ok (.iload_n 1, 1) := by decide +kernel
theorem dX6_wakes_39 : decode cX6_wakes 39 = .ok (.invokevirtual 243, 3) := by decide +kernel
theorem dX6_wakes_42 : decode cX6_wakes 42 = .ok (.ireturn, 1) := by decide +kernel
theorem dX6_loudest_0 : decode cX6_loudest 0 = .ok (.aload_n 0, 1) := by decide +kernel
theorem dX6_loudest_1 : decode cX6_loudest 1 = .ok (.invokevirtual 139, 3) := by decide +kernel
theorem dX6_loudest_4 : decode cX6_loudest 4 = .ok (.ifCond .eq 8, 3) := by decide +kernel
theorem dX6_loudest_7 : decode cX6_loudest 7 = .ok (.ldc 135, 2) := by decide +kernel
theorem dX6_loudest_9 : decode cX6_loudest 9 = .ok (.goto 10, 3) := by decide +kernel
theorem dX6_loudest_12 : decode cX6_loudest 12 = .ok (.aload_n 0, 1) := by decide +kernel
theorem dX6_loudest_13 : decode cX6_loudest 13 = .ok (.getfield 25, 3) := by decide +kernel
theorem dX6_loudest_16 : decode cX6_loudest 16 = .ok (.invokevirtual 246, 3) := by decide +kernel
theorem dX6_loudest_19 : decode cX6_loudest 19 = .ok (.ireturn, 1) := by decide +kernel
theorem dX6_who_0 : decode cX6_who 0 = .ok (.aload_n 0, 1) := by decide +kernel
theorem dX6_who_1 : decode cX6_who 1 = .ok (.iload_n 1, 1) := by decide +kernel
theorem dX6_who_2 : decode cX6_who 2 = .ok (.invokevirtual 155, 3) := by decide +kernel
theorem dX6_who_5 : decode cX6_who 5 = .ok (.ifCond .ne 30, 3) := by decide +kernel
theorem dX6_who_8 : decode cX6_who 8 = .ok (.iload_n 2, 1) := by decide +kernel
theorem dX6_who_9 : decode cX6_who 9 = .ok (.iconst 0, 1) := by decide +kernel
theorem dX6_who_10 : decode cX6_who 10 = .ok (.iconst 3, 1) := by decide +kernel
theorem dX6_who_11 : decode cX6_who 11 = .ok (.invokestatic 62, 3) := by decide +kernel
theorem dX6_who_14 : decode cX6_who 14 = .ok (.ifCond .ne 21, 3) := by decide +kernel
theorem dX6_who_17 : decode cX6_who 17 = .ok (.iload_n 3, 1) := by decide +kernel
theorem dX6_who_18 : decode cX6_who 18 = .ok (.invokestatic 58, 3) := by decide +kernel
theorem dX6_who_21 : decode cX6_who 21 = .ok (.ifCond .ne 14, 3) := by decide +kernel
theorem dX6_who_24 : decode cX6_who 24 = .ok (.iload 5, 2) := by decide +kernel
theorem dX6_who_26 : decode cX6_who 26 = .ok (.iconst 1, 1) := by decide +kernel
theorem dX6_who_27 : decode cX6_who 27 = .ok (.bipush 12, 2) := by decide +kernel
theorem dX6_who_29 : decode cX6_who 29 = .ok (.invokestatic 62, 3) := by decide +kernel
theorem dX6_who_32 : decode cX6_who 32 = .ok (.ifCond .eq 6, 3) := by decide +kernel
theorem dX6_who_35 : decode cX6_who 35 = .ok (.ldc 66, 2) := by decide +kernel
theorem dX6_who_37 : decode cX6_who 37 = .ok (.ireturn, 1) := by decide +kernel
theorem dX6_who_38 : decode cX6_who 38 = .ok (.aload_n 0, 1) := by decide +kernel
theorem dX6_who_39 : decode cX6_who 39 = .ok (.getfield 11, 3) := by decide +kernel
theorem dX6_who_42 : decode cX6_who 42 = .ok (.iload_n 3, 1) := by decide +kernel
theorem dX6_who_43 : decode cX6_who 43 = .ok (.aaload, 1) := by decide +kernel
theorem dX6_who_44 : decode cX6_who 44 = .ok (.iload 4, 2) := by decide +kernel
theorem dX6_who_46 : decode cX6_who 46 = .ok (.iload 5, 2) := by decide +kernel
theorem dX6_who_48 : decode cX6_who 48 = .ok (.invokevirtual 78, 3) := by decide +kernel
theorem dX6_who_51 : decode cX6_who 51 = .ok (.istore 6, 2) := by decide +kernel
theorem dX6_who_53 : decode cX6_who 53 = .ok (.iload 6, 2) := by decide +kernel
theorem dX6_who_55 : decode cX6_who 55 = .ok (.ifCond .eq 10, 3) := by decide +kernel
theorem dX6_who_58 : decode cX6_who 58 = .ok (.aload_n 0, 1) := by decide +kernel
theorem dX6_who_59 : decode cX6_who 59 = .ok (.iload 6, 2) := by decide +kernel
theorem dX6_who_61 : decode cX6_who 61 = .ok (.invokevirtual 67, 3) := by decide +kernel
theorem dX6_who_64 : decode cX6_who 64 = .ok (.ireturn, 1) := by decide +kernel
theorem dX6_who_65 : decode cX6_who 65 = .ok (.aload_n 0, 1) := by decide +kernel
theorem dX6_who_66 : decode cX6_who 66 = .ok (.getfield 46, 3) := by decide +kernel
theorem dX6_who_69 : decode cX6_who 69 = .ok (.aload_n 0, 1) := by decide +kernel
theorem dX6_who_70 : decode cX6_who 70 = .ok (.getfield 11, 3) := by decide +kernel
theorem dX6_who_73 : decode cX6_who 73 = .ok (.iload_n 3, 1) := by decide +kernel
theorem dX6_who_74 : decode cX6_who 74 = .ok (.aaload, 1) := by decide +kernel
theorem dX6_who_75 : decode cX6_who 75 = .ok (.iload 4, 2) := by decide +kernel
theorem dX6_who_77 : decode cX6_who 77 = .ok (.iload 5, 2) := by decide +kernel
theorem dX6_who_79 : decode cX6_who 79 = .ok (.invokevirtual 249, 3) := by decide +kernel
theorem dX6_who_82 : decode cX6_who 82 = .ok (.aload_n 0, 1) := by decide +kernel
theorem dX6_who_83 : decode cX6_who 83 = .ok (.aload_n 0, 1) := by decide +kernel
theorem dX6_who_84 : decode cX6_who 84 = .ok (.getfield 46, 3) := by decide +kernel
theorem dX6_who_87 : decode cX6_who 87 = .ok (.aload_n 0, 1) := by decide +kernel
theorem dX6_who_88 : decode cX6_who 88 = .ok (.getfield 25, 3) := by decide +kernel
theorem dX6_who_91 : decode cX6_who 91 = .ok (.iload_n 1, 1) := by decide +kernel
theorem dX6_who_92 : decode cX6_who 92 = .ok (.iload_n 2, 1) := by decide +kernel
theorem dX6_who_93 : decode cX6_who 93 = .ok (.invokevirtual 253, 3) := by decide +kernel
theorem dX6_who_96 : decode cX6_who 96 = .ok (.invokevirtual 75, 3) := by decide +kernel
theorem dX6_who_99 : decode cX6_who 99 = .ok (.ireturn, 1) := by decide +kernel
theorem dX6_held_0 : decode cX6_held 0 = .ok (.aload_n 0, 1) := by decide +kernel
theorem dX6_held_1 : decode cX6_held 1 = .ok (.invokevirtual 139, 3) := by decide +kernel
theorem dX6_held_4 : decode cX6_held 4 = .ok (.ifCond .eq 6, 3) := by decide +kernel
theorem dX6_held_7 : decode cX6_held 7 = .ok (.ldc 135, 2) := by decide +kernel
theorem dX6_held_9 : decode cX6_held 9 = .ok (.ireturn, 1) := by decide +kernel
theorem dX6_held_10 : decode cX6_held 10 = .ok (.iload_n 1, 1) := by decide +kernel
theorem dX6_held_11 : decode cX6_held 11 = .ok (.invokestatic 58, 3) := by decide +kernel
theorem dX6_held_14 : decode cX6_held 14 = .ok (.ifCond .ne 13, 3) := by decide +kernel
theorem dX6_held_17 : decode cX6_held 17 = .ok (.iload_n 3, 1) := by decide +kernel
theorem dX6_held_18 : decode cX6_held 18 = .ok (.iconst 1, 1) := by decide +kernel
theorem dX6_held_19 : decode cX6_held 19 = .ok (.bipush 12, 2) := by decide +kernel
theorem dX6_held_21 : decode cX6_held 21 = .ok (.invokestatic 62, 3) := by decide +kernel
theorem dX6_held_24 : decode cX6_held 24 = .ok (.ifCond .eq 6, 3) := by decide +kernel
theorem dX6_held_27 : decode cX6_held 27 = .ok (.ldc 66, 2) := by decide +kernel
theorem dX6_held_29 : decode cX6_held 29 = .ok (.ireturn, 1) := by decide +kernel
theorem dX6_held_30 : decode cX6_held 30 = .ok (.aload_n 0, 1) := by decide +kernel
theorem dX6_held_31 : decode cX6_held 31 = .ok (.getfield 11, 3) := by decide +kernel
theorem dX6_held_34 : decode cX6_held 34 = .ok (.iload_n 1, 1) := by decide +kernel
theorem dX6_held_35 : decode cX6_held 35 = .ok (.aaload, 1) := by decide +kernel
theorem dX6_held_36 : decode cX6_held 36 = .ok (.iload_n 2, 1) := by decide +kernel
theorem dX6_held_37 : decode cX6_held 37 = .ok (.iload_n 3, 1) := by decide +kernel
theorem dX6_held_38 : decode cX6_held 38 = .ok (.invokevirtual 78, 3) := by decide +kernel
theorem dX6_held_41 : decode cX6_held 41 = .ok (.istore 4, 2) := by decide +kernel
theorem dX6_held_43 : decode cX6_held 43 = .ok (.iload 4, 2) := by decide +kernel
theorem dX6_held_45 : decode cX6_held 45 = .ok (.ifCond .eq 10, 3) := by decide +kernel
theorem dX6_held_48 : decode cX6_held 48 = .ok (.aload_n 0, 1) := by decide +kernel
theorem dX6_held_49 : decode cX6_held 49 = .ok (.iload 4, 2) := by decide +kernel
theorem dX6_held_51 : decode cX6_held 51 = .ok (.invokevirtual 67, 3) := by decide +kernel
theorem dX6_held_54 : decode cX6_held 54 = .ok (.ireturn, 1) := by decide +kernel
theorem dX6_held_55 : decode cX6_held 55 = .ok (.aload_n 0, 1) := by decide +kernel
theorem dX6_held_56 : decode cX6_held 56 = .ok (.getfield 46, 3) := by decide +kernel
theorem dX6_held_59 : decode cX6_held 59 = .ok (.aload_n 0, 1) := by decide +kernel
theorem dX6_held_60 : decode cX6_held 60 = .ok (.getfield 11, 3) := by decide +kernel
theorem dX6_held_63 : decode cX6_held 63 = .ok (.iload_n 1, 1) := by decide +kernel
theorem dX6_held_64 : decode cX6_held 64 = .ok (.aaload, 1) := by decide +kernel
theorem dX6_held_65 : decode cX6_held 65 = .ok (.iload_n 2, 1) := by decide +kernel
theorem dX6_held_66 : decode cX6_held 66 = .ok (.iload_n 3, 1) := by decide +kernel
theorem dX6_held_67 : decode cX6_held 67 = .ok (.invokevirtual 249, 3) := by decide +kernel
theorem dX6_held_70 : decode cX6_held 70 = .ok (.aload_n 0, 1) := by decide +kernel
theorem dX6_held_71 : decode cX6_held 71 = .ok (.aload_n 0, 1) := by decide +kernel
theorem dX6_held_72 : decode cX6_held 72 = .ok (.getfield 46, 3) := by decide +kernel
theorem dX6_held_75 : decode cX6_held 75 = .ok (.aload_n 0, 1) := by decide +kernel
theorem dX6_held_76 : decode cX6_held 76 = .ok (.getfield 25, 3) := by decide +kernel
theorem dX6_held_79 : decode cX6_held 79 = .ok (.invokevirtual 257, 3) := by decide +kernel
theorem dX6_held_82 : decode cX6_held 82 = .ok (.invokevirtual 75, 3) := by decide +kernel
theorem dX6_held_85 : decode cX6_held 85 = .ok (.ireturn, 1) := by decide +kernel
theorem dX6_lorries_0 : decode cX6_lorries 0 = .ok (.aload_n 0, 1) := by decide +kernel
theorem dX6_lorries_1 : decode cX6_lorries 1 = .ok (.invokevirtual 139, 3) := by decide +kernel
theorem dX6_lorries_4 : decode cX6_lorries 4 = .ok (.ifCond .eq 7, 3) := by decide +kernel
theorem dX6_lorries_7 : decode cX6_lorries 7 = .ok (.ldc2_w 260, 3) := by decide +kernel
theorem dX6_lorries_10 : decode cX6_lorries 10 = .ok (.lreturn, 1) := by decide +kernel
theorem dX6_lorries_11 : decode cX6_lorries 11 = .ok (.iload_n 1, 1) := by decide +kernel
theorem dX6_lorries_12 : decode cX6_lorries 12 = .ok (.iconst 0, 1) := by decide +kernel
theorem dX6_lorries_13 : decode cX6_lorries 13 = .ok (.bipush 99, 2) := by decide +kernel
theorem dX6_lorries_15 : decode cX6_lorries 15 = .ok (.invokestatic 62, 3) := by decide +kernel
theorem dX6_lorries_18 : decode cX6_lorries 18 = .ok (.ifCond .ne 33, 3) := by decide +kernel
theorem dX6_lorries_21 : decode cX6_lorries 21 = .ok (.iload_n 2, 1) := by decide +kernel
theorem dX6_lorries_22 : decode cX6_lorries 22 = .ok (.iconst 0, 1) := by decide +kernel
theorem dX6_lorries_23 : decode cX6_lorries 23 = .ok (.bipush 8, 2) := by decide +kernel
theorem dX6_lorries_25 : decode cX6_lorries 25 = .ok (.invokestatic 62, 3) := by decide +kernel
theorem dX6_lorries_28 : decode cX6_lorries 28 = .ok (.ifCond .ne 23, 3) := by decide +kernel
theorem dX6_lorries_31 : decode cX6_lorries 31 = .ok (.iload_n 3, 1) := by decide +kernel
theorem dX6_lorries_32 : decode cX6_lorries 32 = .ok (.iconst 0, 1) := by decide +kernel
theorem dX6_lorries_33 : decode cX6_lorries 33 = .ok (.bipush 10, 2) := by decide +kernel
theorem dX6_lorries_35 : decode cX6_lorries 35 = .ok (.invokestatic 62, 3) := by decide +kernel
theorem dX6_lorries_38 : decode cX6_lorries 38 = .ok (.ifCond .ne 13, 3) := by decide +kernel
theorem dX6_lorries_41 : decode cX6_lorries 41 = .ok (.iload 4, 2) := by decide +kernel
theorem dX6_lorries_43 : decode cX6_lorries 43 = .ok (.iconst 0, 1) := by decide +kernel
theorem dX6_lorries_44 : decode cX6_lorries 44 = .ok (.iconst 1, 1) := by decide +kernel
theorem dX6_lorries_45 : decode cX6_lorries 45 = .ok (.invokestatic 62, 3) := by decide +kernel
theorem dX6_lorries_48 : decode cX6_lorries 48 = .ok (.ifCond .eq 7, 3) := by decide +kernel
theorem dX6_lorries_51 : decode cX6_lorries 51 = .ok (.ldc2_w 262, 3) := by decide +kernel
theorem dX6_lorries_54 : decode cX6_lorries 54 = .ok (.lreturn, 1) := by decide +kernel
theorem dX6_lorries_55 : decode cX6_lorries 55 = .ok (.aload_n 0, 1) := by decide +kernel
theorem dX6_lorries_56 : decode cX6_lorries 56 = .ok (.getfield 46, 3) := by decide +kernel
theorem dX6_lorries_59 : decode cX6_lorries 59 = .ok (.aload_n 0, 1) := by decide +kernel
theorem dX6_lorries_60 : decode cX6_lorries 60 = .ok (.getfield 25, 3) := by decide +kernel
theorem dX6_lorries_63 : decode cX6_lorries 63 = .ok (.iload_n 1, 1) := by decide +kernel
theorem dX6_lorries_64 : decode cX6_lorries 64 = .ok (.iload_n 2, 1) := by decide +kernel
theorem dX6_lorries_65 : decode cX6_lorries 65 = .ok (.iload_n 3, 1) := by decide +kernel
theorem dX6_lorries_66 : decode cX6_lorries 66 = .ok (.invokevirtual 264, 3) := by decide +kernel
theorem dX6_lorries_69 : decode cX6_lorries 69 = .ok (.iload 4, 2) := by decide +kernel
theorem dX6_lorries_71 : decode cX6_lorries 71 = .ok (.ifCond .ne 13, 3) := by decide +kernel
theorem dX6_lorries_74 : decode cX6_lorries 74 = .ok (.aload_n 0, 1) := by decide +kernel
theorem dX6_lorries_75 : decode cX6_lorries 75 = .ok (.getfield 46, 3) := by decide +kernel
theorem dX6_lorries_78 : decode cX6_lorries 78 = .ok (.getfield 268, 3) := by decide +kernel
theorem dX6_lorries_81 : decode cX6_lorries 81 = .ok (.goto 10, 3) := by decide +kernel
theorem dX6_lorries_84 : decode cX6_lorries 84 = .ok (.aload_n 0, 1) := by decide +kernel
theorem dX6_lorries_85 : decode cX6_lorries 85 = .ok (.getfield 46, 3) := by decide +kernel
theorem dX6_lorries_88 : decode cX6_lorries 88 = .ok (.getfield 272, 3) := by decide +kernel
theorem dX6_lorries_91 : decode cX6_lorries 91 = .ok (.lreturn, 1) := by decide +kernel
theorem dX6_drawn_0 : decode cX6_drawn 0 = .ok (.aload_n 0, 1) := by decide +kernel
theorem dX6_drawn_1 : decode cX6_drawn 1 = .ok (.invokevirtual 139, 3) := by decide +kernel
theorem dX6_drawn_4 : decode cX6_drawn 4 = .ok (.ifCond .eq 6, 3) := by decide +kernel
theorem dX6_drawn_7 : decode cX6_drawn 7 = .ok (.ldc 135, 2) := by decide +kernel
theorem dX6_drawn_9 : decode cX6_drawn 9 = .ok (.ireturn, 1) := by decide +kernel
theorem dX6_drawn_10 : decode cX6_drawn 10 = .ok (.iload_n 1, 1) := by decide +kernel
theorem dX6_drawn_11 : decode cX6_drawn 11 = .ok (.iconst 0, 1) := by decide +kernel
theorem dX6_drawn_12 : decode cX6_drawn 12 = .ok (.bipush 60, 2) := by decide +kernel
theorem dX6_drawn_14 : decode cX6_drawn 14 = .ok (.invokestatic 62, 3) := by decide +kernel
theorem dX6_drawn_17 : decode cX6_drawn 17 = .ok (.ifCond .ne 23, 3) := by decide +kernel
theorem dX6_drawn_20 : decode cX6_drawn 20 = .ok (.iload_n 2, 1) := by decide +kernel
theorem dX6_drawn_21 : decode cX6_drawn 21 = .ok (.iconst 1, 1) := by decide +kernel
theorem dX6_drawn_22 : decode cX6_drawn 22 = .ok (.ldc_w 275, 3) := by decide +kernel
theorem dX6_drawn_25 : decode cX6_drawn 25 = .ok (.invokestatic 62, 3) := by decide +kernel
theorem dX6_drawn_28 : decode cX6_drawn 28 = .ok (.ifCond .ne 12, 3) := by decide +kernel
theorem dX6_drawn_31 : decode cX6_drawn 31 = .ok (.iload_n 3, 1) := by decide +kernel
theorem dX6_drawn_32 : decode cX6_drawn 32 = .ok (.iconst 0, 1) := by decide +kernel
theorem dX6_drawn_33 : decode cX6_drawn 33 = .ok (.iconst 1, 1) := by decide +kernel
theorem dX6_drawn_34 : decode cX6_drawn 34 = .ok (.invokestatic 62, 3) := by decide +kernel
theorem dX6_drawn_37 : decode cX6_drawn 37 = .ok (.ifCond .eq 6, 3) := by decide +kernel
theorem dX6_drawn_40 : decode cX6_drawn 40 = .ok (.ldc 66, 2) := by decide +kernel
theorem dX6_drawn_42 : decode cX6_drawn 42 = .ok (.ireturn, 1) := by decide +kernel
theorem dX6_drawn_43 : decode cX6_drawn 43 = .ok (.aload_n 0, 1) := by decide +kernel
theorem dX6_drawn_44 : decode cX6_drawn 44 = .ok (.getfield 46, 3) := by decide +kernel
theorem dX6_drawn_47 : decode cX6_drawn 47 = .ok (.aload_n 0, 1) := by decide +kernel
theorem dX6_drawn_48 : decode cX6_drawn 48 = .ok (.getfield 25, 3) := by decide +kernel
theorem dX6_drawn_51 : decode cX6_drawn 51 = .ok (.iload_n 1, 1) := by decide +kernel
theorem dX6_drawn_52 : decode cX6_drawn 52 = .ok (.iload_n 2, 1) := by decide +kernel
theorem dX6_drawn_53 : decode cX6_drawn 53 = .ok (.invokevirtual 276, 3) := by decide +kernel
theorem dX6_drawn_56 : decode cX6_drawn 56 = .ok (.istore 4, 2) := by decide +kernel
theorem dX6_drawn_58 : decode cX6_drawn 58 = .ok (.iload_n 3, 1) := by decide +kernel
theorem dX6_drawn_59 : decode cX6_drawn 59 = .ok (.ifCond .ne 20, 3) := by decide +kernel
theorem dX6_drawn_62 : decode cX6_drawn 62 = .ok (.aload_n 0, 1) := by decide +kernel
theorem dX6_drawn_63 : decode cX6_drawn 63 = .ok (.getfield 46, 3) := by decide +kernel
theorem dX6_drawn_66 : decode cX6_drawn 66 = .ok (.getfield 279, 3) := by decide +kernel
theorem dX6_drawn_69 : decode cX6_drawn 69 = .ok (.iconst 2, 1) := by decide +kernel
theorem dX6_drawn_70 : decode cX6_drawn 70 = .ok (.invokevirtual 152, 3) := by decide +kernel
theorem dX6_drawn_73 : decode cX6_drawn 73 = .ok (.invokestatic 164, 3) := by decide +kernel
theorem dX6_drawn_76 : decode cX6_drawn 76 = .ok (.goto 5, 3) := by decide +kernel
theorem dX6_drawn_79 : decode cX6_drawn 79 = .ok (.iload 4, 2) := by decide +kernel
theorem dX6_drawn_81 : decode cX6_drawn 81 = .ok (.ireturn, 1) := by decide +kernel
theorem dX6_image_0 : decode cX6_image 0 = .ok (.iload_n 1, 1) := by decide +kernel
theorem dX6_image_1 : decode cX6_image 1 = .ok (.iconst 0, 1) := by decide +kernel
theorem dX6_image_2 : decode cX6_image 2 = .ok (.iconst 1, 1) := by decide +kernel
theorem dX6_image_3 : decode cX6_image 3 = .ok (.invokestatic 62, 3) := by decide +kernel
theorem dX6_image_6 : decode cX6_image 6 = .ok (.ifCond .eq 6, 3) := by decide +kernel
theorem dX6_image_9 : decode cX6_image 9 = .ok (.ldc 66, 2) := by decide +kernel
theorem dX6_image_11 : decode cX6_image 11 = .ok (.ireturn, 1) := by decide +kernel
theorem dX6_image_12 : decode cX6_image 12 = .ok (.aload_n 0, 1) := by decide +kernel
theorem dX6_image_13 : decode cX6_image 13 = .ok (.invokevirtual 139, 3) := by decide +kernel
theorem dX6_image_16 : decode cX6_image 16 = .ok (.ifCond .eq 6, 3) := by decide +kernel
theorem dX6_image_19 : decode cX6_image 19 = .ok (.ldc 135, 2) := by decide +kernel
theorem dX6_image_21 : decode cX6_image 21 = .ok (.ireturn, 1) := by decide +kernel
theorem dX6_image_22 : decode cX6_image 22 = .ok (.aload_n 0, 1) := by decide +kernel
theorem dX6_image_23 : decode cX6_image 23 = .ok (.getfield 32, 3) := by decide +kernel
theorem dX6_image_26 : decode cX6_image 26 = .ok (.iload_n 1, 1) := by decide +kernel
theorem dX6_image_27 : decode cX6_image 27 = .ok (.aaload, 1) := by decide +kernel
theorem dX6_image_28 : decode cX6_image 28 = .ok (.aload_n 0, 1) := by decide +kernel
theorem dX6_image_29 : decode cX6_image 29 = .ok (.getfield 25, 3) := by decide +kernel
theorem dX6_image_32 : decode cX6_image 32 = .ok (.invokevirtual 124, 3) := by decide +kernel
theorem dX6_image_35 : decode cX6_image 35 = .ok (.iconst 1, 1) := by decide +kernel
theorem dX6_image_36 : decode cX6_image 36 = .ok (.ireturn, 1) := by decide +kernel
theorem dX6_restore_0 : decode cX6_restore 0 = .ok (.iload_n 1, 1) := by decide +kernel
theorem dX6_restore_1 : decode cX6_restore 1 = .ok (.iconst 0, 1) := by decide +kernel
theorem dX6_restore_2 : decode cX6_restore 2 = .ok (.iconst 1, 1) := by decide +kernel
theorem dX6_restore_3 : decode cX6_restore 3 = .ok (.invokestatic 62, 3) := by decide +kernel
theorem dX6_restore_6 : decode cX6_restore 6 = .ok (.ifCond .eq 6, 3) := by decide +kernel
theorem dX6_restore_9 : decode cX6_restore 9 = .ok (.ldc 66, 2) := by decide +kernel
theorem dX6_restore_11 : decode cX6_restore 11 = .ok (.ireturn, 1) := by decide +kernel
theorem dX6_restore_12 : decode cX6_restore 12 = .ok (.aload_n 0, 1) := by decide +kernel
theorem dX6_restore_13 : decode cX6_restore 13 = .ok (.getfield 32, 3) := by decide +kernel
theorem dX6_restore_16 : decode cX6_restore 16 = .ok (.iload_n 1, 1) := by decide +kernel
theorem dX6_restore_17 : decode cX6_restore 17 = .ok (.aaload, 1) := by decide +kernel
theorem dX6_restore_18 : decode cX6_restore 18 = .ok (.getfield 131, 3) := by decide +kernel
theorem dX6_restore_21 : decode cX6_restore 21 = .ok (.ifCond .ne 6, 3) := by decide +kernel
theorem dX6_restore_24 : decode cX6_restore 24 = .ok (.ldc 135, 2) := by decide +kernel
theorem dX6_restore_26 : decode cX6_restore 26 = .ok (.ireturn, 1) := by decide +kernel
theorem dX6_restore_27 : decode cX6_restore 27 = .ok (.aload_n 0, 1) := by decide +kernel
theorem dX6_restore_28 : decode cX6_restore 28 = .ok (.getfield 25, 3) := by decide +kernel
theorem dX6_restore_31 : decode cX6_restore 31 = .ok (.aload_n 0, 1) := by decide +kernel
theorem dX6_restore_32 : decode cX6_restore 32 = .ok (.getfield 32, 3) := by decide +kernel
theorem dX6_restore_35 : decode cX6_restore 35 = .ok (.iload_n 1, 1) := by decide +kernel
theorem dX6_restore_36 : decode cX6_restore 36 = .ok (.aaload, 1) := by decide +kernel
theorem dX6_restore_37 : decode cX6_restore 37 = .ok (.invokevirtual 124, 3) := by decide +kernel
theorem dX6_restore_40 : decode cX6_restore 40 = .ok (.aload_n 0, 1) := by decide +kernel
theorem dX6_restore_41 : decode cX6_restore 41 = .ok (.getfield 39, 3) := by decide +kernel
theorem dX6_restore_44 : decode cX6_restore 44 = .ok (.invokevirtual 128, 3) := by decide +kernel
theorem dX6_restore_47 : decode cX6_restore 47 = .ok (.iconst 1, 1) := by decide +kernel
theorem dX6_restore_48 : decode cX6_restore 48 = .ok (.ireturn, 1) := by decide +kernel
theorem dX6_kind_0 : decode cX6_kind 0 = .ok (.aload_n 0, 1) := by decide +kernel
theorem dX6_kind_1 : decode cX6_kind 1 = .ok (.iload_n 1, 1) := by decide +kernel
theorem dX6_kind_2 : decode cX6_kind 2 = .ok (.invokevirtual 155, 3) := by decide +kernel
theorem dX6_kind_5 : decode cX6_kind 5 = .ok (.ifCond .eq 8, 3) := by decide +kernel
theorem dX6_kind_8 : decode cX6_kind 8 = .ok (.ldc 66, 2) := by decide +kernel
theorem dX6_kind_10 : decode cX6_kind 10 = .ok (.goto 12, 3) := by decide +kernel
theorem dX6_kind_13 : decode cX6_kind 13 = .ok (.aload_n 0, 1) := by decide +kernel
theorem dX6_kind_14 : decode cX6_kind 14 = .ok (.getfield 25, 3) := by decide +kernel
theorem dX6_kind_17 : decode cX6_kind 17 = .ok (.getfield 282, 3) := by decide +kernel
theorem dX6_kind_20 : decode cX6_kind 20 = .ok (.iload_n 1, 1) := by decide +kernel
theorem dX6_kind_21 : decode cX6_kind 21 = .ok (.iaload, 1) := by decide +kernel
theorem dX6_kind_22 : decode cX6_kind 22 = .ok (.ireturn, 1) := by decide +kernel
theorem dX6_as_0 : decode cX6_as 0 = .ok (.aload_n 0, 1) := by decide +kernel
theorem dX6_as_1 : decode cX6_as 1 = .ok (.iload_n 1, 1) := by decide +kernel
theorem dX6_as_2 : decode cX6_as 2 = .ok (.invokevirtual 155, 3) := by decide +kernel
theorem dX6_as_5 : decode cX6_as 5 = .ok (.ifCond .ne 12, 3) := by decide +kernel
theorem dX6_as_8 : decode cX6_as 8 = .ok (.iload_n 2, 1) := by decide +kernel
theorem dX6_as_9 : decode cX6_as 9 = .ok (.iconst 0, 1) := by decide +kernel
theorem dX6_as_10 : decode cX6_as 10 = .ok (.iconst 5, 1) := by decide +kernel
theorem dX6_as_11 : decode cX6_as 11 = .ok (.invokestatic 62, 3) := by decide +kernel
theorem dX6_as_14 : decode cX6_as 14 = .ok (.ifCond .eq 6, 3) := by decide +kernel
theorem dX6_as_17 : decode cX6_as 17 = .ok (.ldc 66, 2) := by decide +kernel
theorem dX6_as_19 : decode cX6_as 19 = .ok (.ireturn, 1) := by decide +kernel
theorem dX6_as_20 : decode cX6_as 20 = .ok (.aload_n 0, 1) := by decide +kernel
theorem dX6_as_21 : decode cX6_as 21 = .ok (.getfield 25, 3) := by decide +kernel
theorem dX6_as_24 : decode cX6_as 24 = .ok (.getfield 282, 3) := by decide +kernel
theorem dX6_as_27 : decode cX6_as 27 = .ok (.iload_n 1, 1) := by decide +kernel
theorem dX6_as_28 : decode cX6_as 28 = .ok (.iaload, 1) := by decide +kernel
theorem dX6_as_29 : decode cX6_as 29 = .ok (.iload_n 2, 1) := by decide +kernel
theorem dX6_as_30 : decode cX6_as 30 = .ok (.invokestatic 285, 3) := by decide +kernel
theorem dX6_as_33 : decode cX6_as 33 = .ok (.ifCond .eq 11, 3) := by decide +kernel
theorem dX6_as_36 : decode cX6_as 36 = .ok (.aload_n 0, 1) := by decide +kernel
theorem dX6_as_37 : decode cX6_as 37 = .ok (.iload_n 1, 1) := by decide +kernel
theorem dX6_as_38 : decode cX6_as 38 = .ok (.invokevirtual 75, 3) := by decide +kernel
theorem dX6_as_41 : decode cX6_as 41 = .ok (.goto 8, 3) := by decide +kernel
theorem dX6_as_44 : decode cX6_as 44 = .ok (.aload_n 0, 1) := by decide +kernel
theorem dX6_as_45 : decode cX6_as 45 = .ok (.iconst 3, 1) := by decide +kernel
theorem dX6_as_46 : decode cX6_as 46 = .ok (.invokevirtual 67, 3) := by decide +kernel
theorem dX6_as_49 : decode cX6_as 49 = .ok (.ireturn, 1) := by decide +kernel
theorem dX6_ask_0 : decode cX6_ask 0 = .ok (.aload_n 0, 1) := by decide +kernel
theorem dX6_ask_1 : decode cX6_ask 1 = .ok (.iload_n 1, 1) := by decide +kernel
theorem dX6_ask_2 : decode cX6_ask 2 = .ok (.invokevirtual 155, 3) := by decide +kernel
theorem dX6_ask_5 : decode cX6_ask 5 = .ok (.ifCond .ne 12, 3) := by decide +kernel
theorem dX6_ask_8 : decode cX6_ask 8 = .ok (.iload_n 2, 1) := by decide +kernel
theorem dX6_ask_9 : decode cX6_ask 9 = .ok (.iconst 0, 1) := by decide +kernel
theorem dX6_ask_10 : decode cX6_ask 10 = .ok (.iconst 1, 1) := by decide +kernel
theorem dX6_ask_11 : decode cX6_ask 11 = .ok (.invokestatic 62, 3) := by decide +kernel
theorem dX6_ask_14 : decode cX6_ask 14 = .ok (.ifCond .eq 6, 3) := by decide +kernel
theorem dX6_ask_17 : decode cX6_ask 17 = .ok (.ldc 66, 2) := by decide +kernel
theorem dX6_ask_19 : decode cX6_ask 19 = .ok (.ireturn, 1) := by decide +kernel
theorem dX6_ask_20 : decode cX6_ask 20 = .ok (.aload_n 0, 1) := by decide +kernel
theorem dX6_ask_21 : decode cX6_ask 21 = .ok (.getfield 53, 3) := by decide +kernel
theorem dX6_ask_24 : decode cX6_ask 24 = .ok (.aload_n 0, 1) := by decide +kernel
theorem dX6_ask_25 : decode cX6_ask 25 = .ok (.getfield 25, 3) := by decide +kernel
theorem dX6_ask_28 : decode cX6_ask 28 = .ok (.iload_n 1, 1) := by decide +kernel
theorem dX6_ask_29 : decode cX6_ask 29 = .ok (.iload_n 2, 1) := by decide +kernel
theorem dX6_ask_30 : decode cX6_ask 30 = .ok (.invokevirtual 288, 3) := by decide +kernel
theorem dX6_ask_33 : decode cX6_ask 33 = .ok (.ireturn, 1) := by decide +kernel
theorem dX6_trace_0 : decode cX6_trace 0 = .ok (.iload_n 1, 1) := by decide +kernel
theorem dX6_trace_1 : decode cX6_trace 1 = .ok (.ifCond .lt 14, 3) := by decide +kernel
theorem dX6_trace_4 : decode cX6_trace 4 = .ok (.iload_n 1, 1) := by decide +kernel
theorem dX6_trace_5 : decode cX6_trace 5 = .ok (.aload_n 0, 1) := by decide +kernel
theorem dX6_trace_6 : decode cX6_trace 6 = .ok (.getfield 53, 3) := by decide +kernel
theorem dX6_trace_9 : decode cX6_trace 9 = .ok (.getfield 291, 3) := by decide +kernel
theorem dX6_trace_12 : decode cX6_trace 12 = .ok (.if_icmp .lt 8, 3) := by decide +kernel
theorem dX6_trace_15 : decode cX6_trace 15 = .ok (.ldc 236, 2) := by decide +kernel
theorem dX6_trace_17 : decode cX6_trace 17 = .ok (.goto 12, 3) := by decide +kernel
theorem dX6_trace_20 : decode cX6_trace 20 = .ok (.aload_n 0, 1) := by decide +kernel
theorem dX6_trace_21 : decode cX6_trace 21 = .ok (.getfield 53, 3) := by decide +kernel
theorem dX6_trace_24 : decode cX6_trace 24 = .ok (.getfield 294, 3) := by decide +kernel
theorem dX6_trace_27 : decode cX6_trace 27 = .ok (.iload_n 1, 1) := by decide +kernel
theorem dX6_trace_28 : decode cX6_trace 28 = .ok (.iaload, 1) := by decide +kernel
theorem dX6_trace_29 : decode cX6_trace 29 = .ok (.ireturn, 1) := by decide +kernel
theorem dX6_count_0 : decode cX6_count 0 = .ok (.iload_n 1, 1) := by decide +kernel
theorem dX6_count_1 : decode cX6_count 1 = .ok (.tableswitch 119 0 7 #[47, 52, 60, 68, 80, 92, 103, 111], 47) := by decide +kernel
theorem dX6_count_48 : decode cX6_count 48 = .ok (.aload_n 0, 1) := by decide +kernel
theorem dX6_count_49 : decode cX6_count 49 = .ok (.invokevirtual 297, 3) := by decide +kernel
theorem dX6_count_52 : decode cX6_count 52 = .ok (.ireturn, 1) := by decide +kernel
theorem dX6_count_53 : decode cX6_count 53 = .ok (.aload_n 0, 1) := by decide +kernel
theorem dX6_count_54 : decode cX6_count 54 = .ok (.getfield 25, 3) := by decide +kernel
theorem dX6_count_57 : decode cX6_count 57 = .ok (.getfield 131, 3) := by decide +kernel
theorem dX6_count_60 : decode cX6_count 60 = .ok (.ireturn, 1) := by decide +kernel
theorem dX6_count_61 : decode cX6_count 61 = .ok (.aload_n 0, 1) := by decide +kernel
theorem dX6_count_62 : decode cX6_count 62 = .ok (.getfield 25, 3) := by decide +kernel
theorem dX6_count_65 : decode cX6_count 65 = .ok (.getfield 143, 3) := by decide +kernel
theorem dX6_count_68 : decode cX6_count 68 = .ok (.ireturn, 1) := by decide +kernel
theorem dX6_count_69 : decode cX6_count 69 = .ok (.aload_n 0, 1) := by decide +kernel
theorem dX6_count_70 : decode cX6_count 70 = .ok (.getfield 25, 3) := by decide +kernel
theorem dX6_count_73 : decode cX6_count 73 = .ok (.iconst 2, 1) := by decide +kernel
theorem dX6_count_74 : decode cX6_count 74 = .ok (.invokevirtual 152, 3) := by decide +kernel
theorem dX6_count_77 : decode cX6_count 77 = .ok (.invokestatic 164, 3) := by decide +kernel
theorem dX6_count_80 : decode cX6_count 80 = .ok (.ireturn, 1) := by decide +kernel
theorem dX6_count_81 : decode cX6_count 81 = .ok (.aload_n 0, 1) := by decide +kernel
theorem dX6_count_82 : decode cX6_count 82 = .ok (.getfield 25, 3) := by decide +kernel
theorem dX6_count_85 : decode cX6_count 85 = .ok (.iconst 1, 1) := by decide +kernel
theorem dX6_count_86 : decode cX6_count 86 = .ok (.invokevirtual 152, 3) := by decide +kernel
theorem dX6_count_89 : decode cX6_count 89 = .ok (.invokestatic 164, 3) := by decide +kernel
theorem dX6_count_92 : decode cX6_count 92 = .ok (.ireturn, 1) := by decide +kernel
theorem dX6_count_93 : decode cX6_count 93 = .ok (.aload_n 0, 1) := by decide +kernel
theorem dX6_count_94 : decode cX6_count 94 = .ok (.getfield 25, 3) := by decide +kernel
theorem dX6_count_97 : decode cX6_count 97 = .ok (.getfield 172, 3) := by decide +kernel
theorem dX6_count_100 : decode cX6_count 100 = .ok (.invokestatic 164, 3) := by decide +kernel
theorem dX6_count_103 : decode cX6_count 103 = .ok (.ireturn, 1) := by decide +kernel
theorem dX6_count_104 : decode cX6_count 104 = .ok (.aload_n 0, 1) := by decide +kernel
theorem dX6_count_105 : decode cX6_count 105 = .ok (.getfield 39, 3) := by decide +kernel
theorem dX6_count_108 : decode cX6_count 108 = .ok (.getfield 134, 3) := by decide +kernel
theorem dX6_count_111 : decode cX6_count 111 = .ok (.ireturn, 1) := by decide +kernel
theorem dX6_count_112 : decode cX6_count 112 = .ok (.aload_n 0, 1) := by decide +kernel
theorem dX6_count_113 : decode cX6_count 113 = .ok (.getfield 18, 3) := by decide +kernel
theorem dX6_count_116 : decode cX6_count 116 = .ok (.getfield 106, 3) := by decide +kernel
theorem dX6_count_119 : decode cX6_count 119 = .ok (.ireturn, 1) := by decide +kernel
theorem dX6_count_120 : decode cX6_count 120 = .ok (.ldc 66, 2) := by decide +kernel
theorem dX6_count_122 : decode cX6_count 122 = .ok (.ireturn, 1) := by decide +kernel
theorem dX6_status_0 : decode cX6_status 0 = .ok (.aload_n 0, 1) := by decide +kernel
theorem dX6_status_1 : decode cX6_status 1 = .ok (.getfield 300, 3) := by decide +kernel
theorem dX6_status_4 : decode cX6_status 4 = .ok (.ireturn, 1) := by decide +kernel
theorem dX6_found_0 : decode cX6_found 0 = .ok (.aload_n 0, 1) := by decide +kernel
theorem dX6_found_1 : decode cX6_found 1 = .ok (.iload_n 1, 1) := by decide +kernel
theorem dX6_found_2 : decode cX6_found 2 = .ok (.putfield 300, 3) := by decide +kernel
theorem dX6_found_5 : decode cX6_found 5 = .ok (.ldc_w 303, 3) := by decide +kernel
theorem dX6_found_8 : decode cX6_found 8 = .ok (.iload_n 1, 1) := by decide +kernel
theorem dX6_found_9 : decode cX6_found 9 = .ok (.isub, 1) := by decide +kernel
theorem dX6_found_10 : decode cX6_found 10 = .ok (.ireturn, 1) := by decide +kernel
theorem dX6_foundNothing_0 : decode cX6_foundNothing 0 = .ok (.aload_n 0, 1) := by decide +kernel
theorem dX6_foundNothing_1 : decode cX6_foundNothing 1 = .ok (.iconst 0, 1) := by decide +kernel
theorem dX6_foundNothing_2 : decode cX6_foundNothing 2 = .ok (.putfield 300, 3) := by decide +kernel
theorem dX6_foundNothing_5 : decode cX6_foundNothing 5 = .ok (.iload_n 1, 1) := by decide +kernel
theorem dX6_foundNothing_6 : decode cX6_foundNothing 6 = .ok (.ireturn, 1) := by decide +kernel
theorem dX6_noRoom_0 : decode cX6_noRoom 0 = .ok (.aload_n 0, 1) := by decide +kernel
theorem dX6_noRoom_1 : decode cX6_noRoom 1 = .ok (.getfield 25, 3) := by decide +kernel
theorem dX6_noRoom_4 : decode cX6_noRoom 4 = .ok (.getfield 131, 3) := by decide +kernel
theorem dX6_noRoom_7 : decode cX6_noRoom 7 = .ok (.ifCond .ne 7, 3) := by decide +kernel
theorem dX6_noRoom_10 : decode cX6_noRoom 10 = .ok (.iconst 1, 1) := by decide +kernel
theorem dX6_noRoom_11 : decode cX6_noRoom 11 = .ok (.goto 4, 3) := by decide +kernel
theorem dX6_noRoom_14 : decode cX6_noRoom 14 = .ok (.iconst 0, 1) := by decide +kernel
theorem dX6_noRoom_15 : decode cX6_noRoom 15 = .ok (.ireturn, 1) := by decide +kernel
theorem dX6_noChild_0 : decode cX6_noChild 0 = .ok (.iload_n 1, 1) := by decide +kernel
theorem dX6_noChild_1 : decode cX6_noChild 1 = .ok (.ifCond .lt 14, 3) := by decide +kernel
theorem dX6_noChild_4 : decode cX6_noChild 4 = .ok (.iload_n 1, 1) := by decide +kernel
theorem dX6_noChild_5 : decode cX6_noChild 5 = .ok (.aload_n 0, 1) := by decide +kernel
theorem dX6_noChild_6 : decode cX6_noChild 6 = .ok (.getfield 25, 3) := by decide +kernel
theorem dX6_noChild_9 : decode cX6_noChild 9 = .ok (.getfield 131, 3) := by decide +kernel
theorem dX6_noChild_12 : decode cX6_noChild 12 = .ok (.if_icmp .lt 7, 3) := by decide +kernel
theorem dX6_noChild_15 : decode cX6_noChild 15 = .ok (.iconst 1, 1) := by decide +kernel
theorem dX6_noChild_16 : decode cX6_noChild 16 = .ok (.goto 4, 3) := by decide +kernel
theorem dX6_noChild_19 : decode cX6_noChild 19 = .ok (.iconst 0, 1) := by decide +kernel
theorem dX6_noChild_20 : decode cX6_noChild 20 = .ok (.ireturn, 1) := by decide +kernel
theorem dX6_presentRows_0 : decode cX6_presentRows 0 = .ok (.iconst 0, 1) := by decide +kernel
theorem dX6_presentRows_1 : decode cX6_presentRows 1 = .ok (.istore_n 1, 1) := by decide +kernel
theorem dX6_presentRows_2 : decode cX6_presentRows 2 = .ok (.iconst 0, 1) := by decide +kernel
theorem dX6_presentRows_3 : decode cX6_presentRows 3 = .ok (.istore_n 2, 1) := by decide +kernel
theorem dX6_presentRows_4 : decode cX6_presentRows 4 = .ok (.iload_n 2, 1) := by decide +kernel
theorem dX6_presentRows_5 : decode cX6_presentRows 5 = .ok (.bipush 8, 2) := by decide +kernel
theorem dX6_presentRows_7 : decode cX6_presentRows 7 = .ok (.if_icmp .ge 25, 3) := by decide +kernel
theorem dX6_presentRows_10 : decode cX6_presentRows 10 = .ok (.aload_n 0, 1) := by decide +kernel
theorem dX6_presentRows_11 : decode cX6_presentRows 11 = .ok (.getfield 11, 3) := by decide +kernel
theorem dX6_presentRows_14 : decode cX6_presentRows 14 = .ok (.iload_n 2, 1) := by decide +kernel
theorem dX6_presentRows_15 : decode cX6_presentRows 15 = .ok (.aaload, 1) := by decide +kernel
theorem dX6_presentRows_16 : decode cX6_presentRows 16 = .ok (.getfield 89, 3) := by decide +kernel
theorem dX6_presentRows_19 : decode cX6_presentRows 19 = .ok (.iconst (-1), 1) := by decide +kernel
theorem dX6_presentRows_20 : decode cX6_presentRows 20 = .ok (.if_icmp .eq 6, 3) := by decide +kernel
theorem dX6_presentRows_23 : decode cX6_presentRows 23 = .ok (.iinc 1 1, 3) := by decide +kernel
theorem dX6_presentRows_26 : decode cX6_presentRows 26 = .ok (.iinc 2 1, 3) := by decide +kernel
theorem dX6_presentRows_29 : decode cX6_presentRows 29 = .ok (.goto (-25), 3) := by decide +kernel
theorem dX6_presentRows_32 : decode cX6_presentRows 32 = .ok (.iload_n 1, 1) := by decide +kernel
theorem dX6_presentRows_33 : decode cX6_presentRows 33 = .ok (.ireturn, 1) := by decide +kernel
theorem dX6_noRow_0 : decode cX6_noRow 0 = .ok (.iload_n 0, 1) := by decide +kernel
theorem dX6_noRow_1 : decode cX6_noRow 1 = .ok (.ifCond .lt 9, 3) := by decide +kernel
theorem dX6_noRow_4 : decode cX6_noRow 4 = .ok (.iload_n 0, 1) := by decide +kernel
theorem dX6_noRow_5 : decode cX6_noRow 5 = .ok (.bipush 8, 2) := by decide +kernel
theorem dX6_noRow_7 : decode cX6_noRow 7 = .ok (.if_icmp .lt 7, 3) := by decide +kernel
theorem dX6_noRow_10 : decode cX6_noRow 10 = .ok (.iconst 1, 1) := by decide +kernel
theorem dX6_noRow_11 : decode cX6_noRow 11 = .ok (.goto 4, 3) := by decide +kernel
theorem dX6_noRow_14 : decode cX6_noRow 14 = .ok (.iconst 0, 1) := by decide +kernel
theorem dX6_noRow_15 : decode cX6_noRow 15 = .ok (.ireturn, 1) := by decide +kernel
theorem dX6_beyond_0 : decode cX6_beyond 0 = .ok (.iload_n 0, 1) := by decide +kernel
theorem dX6_beyond_1 : decode cX6_beyond 1 = .ok (.iload_n 1, 1) := by decide +kernel
theorem dX6_beyond_2 : decode cX6_beyond 2 = .ok (.if_icmp .lt 8, 3) := by decide +kernel
theorem dX6_beyond_5 : decode cX6_beyond 5 = .ok (.iload_n 0, 1) := by decide +kernel
theorem dX6_beyond_6 : decode cX6_beyond 6 = .ok (.iload_n 2, 1) := by decide +kernel
theorem dX6_beyond_7 : decode cX6_beyond 7 = .ok (.if_icmp .le 7, 3) := by decide +kernel
theorem dX6_beyond_10 : decode cX6_beyond 10 = .ok (.iconst 1, 1) := by decide +kernel
theorem dX6_beyond_11 : decode cX6_beyond 11 = .ok (.goto 4, 3) := by decide +kernel
theorem dX6_beyond_14 : decode cX6_beyond 14 = .ok (.iconst 0, 1) := by decide +kernel
theorem dX6_beyond_15 : decode cX6_beyond 15 = .ok (.ireturn, 1) := by decide +kernel
theorem dX6_has_0 : decode cX6_has 0 = .ok (.iload_n 0, 1) := by decide +kernel
theorem dX6_has_1 : decode cX6_has 1 = .ok (.iload_n 1, 1) := by decide +kernel
theorem dX6_has_2 : decode cX6_has 2 = .ok (.ishr, 1) := by decide +kernel
theorem dX6_has_3 : decode cX6_has 3 = .ok (.iconst 1, 1) := by decide +kernel
theorem dX6_has_4 : decode cX6_has 4 = .ok (.iand, 1) := by decide +kernel
theorem dX6_has_5 : decode cX6_has 5 = .ok (.iconst 1, 1) := by decide +kernel
theorem dX6_has_6 : decode cX6_has 6 = .ok (.if_icmp .ne 7, 3) := by decide +kernel
theorem dX6_has_9 : decode cX6_has 9 = .ok (.iconst 1, 1) := by decide +kernel
theorem dX6_has_10 : decode cX6_has 10 = .ok (.goto 4, 3) := by decide +kernel
theorem dX6_has_13 : decode cX6_has 13 = .ok (.iconst 0, 1) := by decide +kernel
theorem dX6_has_14 : decode cX6_has 14 = .ok (.ireturn, 1) := by decide +kernel
theorem dX6_isOne_0 : decode cX6_isOne 0 = .ok (.iload_n 0, 1) := by decide +kernel
theorem dX6_isOne_1 : decode cX6_isOne 1 = .ok (.istore_n 2, 1) := by decide +kernel
theorem dX6_isOne_2 : decode cX6_isOne 2 = .ok (.iconst 0, 1) := by decide +kernel
theorem dX6_isOne_3 : decode cX6_isOne 3 = .ok (.istore_n 3, 1) := by decide +kernel
theorem dX6_isOne_4 : decode cX6_isOne 4 = .ok (.iload_n 3, 1) := by decide +kernel
theorem dX6_isOne_5 : decode cX6_isOne 5 = .ok (.getstatic 304, 3) := by decide +kernel
theorem dX6_isOne_8 : decode cX6_isOne 8 = .ok (.arraylength, 1) := by decide +kernel
theorem dX6_isOne_9 : decode cX6_isOne 9 = .ok (.if_icmp .ge 34, 3) := by decide +kernel
theorem dX6_isOne_12 : decode cX6_isOne 12 = .ok (.iload_n 2, 1) := by decide +kernel
theorem dX6_isOne_13 : decode cX6_isOne 13 = .ok (.ifCond .lt 30, 3) := by decide +kernel
theorem dX6_isOne_16 : decode cX6_isOne 16 = .ok (.iload_n 2, 1) := by decide +kernel
theorem dX6_isOne_17 : decode cX6_isOne 17 = .ok (.getstatic 304, 3) := by decide +kernel
theorem dX6_isOne_20 : decode cX6_isOne 20 = .ok (.arraylength, 1) := by decide +kernel
theorem dX6_isOne_21 : decode cX6_isOne 21 = .ok (.if_icmp .ge 22, 3) := by decide +kernel
theorem dX6_isOne_24 : decode cX6_isOne 24 = .ok (.iload_n 2, 1) := by decide +kernel
theorem dX6_isOne_25 : decode cX6_isOne 25 = .ok (.iload_n 1, 1) := by decide +kernel
theorem dX6_isOne_26 : decode cX6_isOne 26 = .ok (.if_icmp .ne 5, 3) := by decide +kernel
theorem dX6_isOne_29 : decode cX6_isOne 29 = .ok (.iconst 1, 1) := by decide +kernel
theorem dX6_isOne_30 : decode cX6_isOne 30 = .ok (.ireturn, 1) := by decide +kernel
theorem dX6_isOne_31 : decode cX6_isOne 31 = .ok (.getstatic 304, 3) := by decide +kernel
theorem dX6_isOne_34 : decode cX6_isOne 34 = .ok (.iload_n 2, 1) := by decide +kernel
theorem dX6_isOne_35 : decode cX6_isOne 35 = .ok (.iaload, 1) := by decide +kernel
theorem dX6_isOne_36 : decode cX6_isOne 36 = .ok (.istore_n 2, 1) := by decide +kernel
theorem dX6_isOne_37 : decode cX6_isOne 37 = .ok (.iinc 3 1, 3) := by decide +kernel
theorem dX6_isOne_40 : decode cX6_isOne 40 = .ok (.goto (-36), 3) := by decide +kernel
theorem dX6_isOne_43 : decode cX6_isOne 43 = .ok (.iconst 0, 1) := by decide +kernel
theorem dX6_isOne_44 : decode cX6_isOne 44 = .ok (.ireturn, 1) := by decide +kernel

theorem dX8_step_15 : decode cX8_step 15 = .ok (.iconst 3, 1) := by decide +kernel
theorem dX8_step_16 : decode cX8_step 16 = .ok (.if_icmp .ne 18, 3) := by decide +kernel
theorem dX8_step_19 : decode cX8_step 19 = .ok (.aload_n 0, 1) := by decide +kernel
theorem dX8_step_20 : decode cX8_step 20 = .ok (.getfield 175, 3) := by decide +kernel
theorem dX8_step_23 : decode cX8_step 23 = .ok (.ifCond .ne 8, 3) := by decide +kernel
theorem dX8_step_26 : decode cX8_step 26 = .ok (.bipush (-2), 2) := by decide +kernel
theorem dX8_step_28 : decode cX8_step 28 = .ok (.goto 5, 3) := by decide +kernel
theorem dX8_step_31 : decode cX8_step 31 = .ok (.bipush (-4), 2) := by decide +kernel
theorem dX8_step_33 : decode cX8_step 33 = .ok (.ireturn, 1) := by decide +kernel
theorem dX8_step_34 : decode cX8_step 34 = .ok (.aload_n 0, 1) := by decide +kernel
theorem dX8_step_35 : decode cX8_step 35 = .ok (.invokevirtual 162, 3) := by decide +kernel
theorem dX8_step_38 : decode cX8_step 38 = .ok (.aload_n 0, 1) := by decide +kernel
theorem dX8_step_39 : decode cX8_step 39 = .ok (.aload_n 0, 1) := by decide +kernel
theorem dX8_step_40 : decode cX8_step 40 = .ok (.getfield 184, 3) := by decide +kernel
theorem dX8_step_43 : decode cX8_step 43 = .ok (.aload_n 0, 1) := by decide +kernel
theorem dX8_step_44 : decode cX8_step 44 = .ok (.getfield 175, 3) := by decide +kernel
theorem dX8_step_47 : decode cX8_step 47 = .ok (.iconst 1, 1) := by decide +kernel
theorem dX8_step_48 : decode cX8_step 48 = .ok (.if_icmp .ne 7, 3) := by decide +kernel
theorem dX8_step_51 : decode cX8_step 51 = .ok (.iconst 2, 1) := by decide +kernel
theorem dX8_step_52 : decode cX8_step 52 = .ok (.goto 4, 3) := by decide +kernel
theorem dX8_step_55 : decode cX8_step 55 = .ok (.iconst 1, 1) := by decide +kernel
theorem dX8_step_56 : decode cX8_step 56 = .ok (.invokevirtual 165, 3) := by decide +kernel
theorem dX8_step_59 : decode cX8_step 59 = .ok (.aload_n 0, 1) := by decide +kernel
theorem dX8_step_60 : decode cX8_step 60 = .ok (.getfield 184, 3) := by decide +kernel
theorem dX8_step_63 : decode cX8_step 63 = .ok (.invokestatic 187, 3) := by decide +kernel
theorem dX8_step_66 : decode cX8_step 66 = .ok (.ireturn, 1) := by decide +kernel
theorem dX8_spreads_0 : decode cX8_spreads 0 = .ok (.aload_n 0, 1) := by decide +kernel
theorem dX8_spreads_1 : decode cX8_spreads 1 = .ok (.invokevirtual 162, 3) := by decide +kernel
theorem dX8_spreads_4 : decode cX8_spreads 4 = .ok (.iconst 0, 1) := by decide +kernel
theorem dX8_spreads_5 : decode cX8_spreads 5 = .ok (.istore_n 1, 1) := by decide +kernel
theorem dX8_spreads_6 : decode cX8_spreads 6 = .ok (.aload_n 0, 1) := by decide +kernel
theorem dX8_spreads_7 : decode cX8_spreads 7 = .ok (.invokevirtual 232, 3) := by decide +kernel
theorem dX8_spreads_10 : decode cX8_spreads 10 = .ok (.aload_n 0, 1) := by decide +kernel
theorem dX8_spreads_11 : decode cX8_spreads 11 = .ok (.getfield 175, 3) := by decide +kernel
theorem dX8_spreads_14 : decode cX8_spreads 14 = .ok (.iconst 1, 1) := by decide +kernel
theorem dX8_spreads_15 : decode cX8_spreads 15 = .ok (.if_icmp .eq 11, 3) := by decide +kernel
theorem dX8_spreads_18 : decode cX8_spreads 18 = .ok (.aload_n 0, 1) := by decide +kernel
theorem dX8_spreads_19 : decode cX8_spreads 19 = .ok (.getfield 175, 3) := by decide +kernel
theorem dX8_spreads_22 : decode cX8_spreads 22 = .ok (.iconst 2, 1) := by decide +kernel
theorem dX8_spreads_23 : decode cX8_spreads 23 = .ok (.if_icmp .ne 41, 3) := by decide +kernel
theorem dX8_spreads_26 : decode cX8_spreads 26 = .ok (.iload_n 1, 1) := by decide +kernel
theorem dX8_spreads_27 : decode cX8_spreads 27 = .ok (.aload_n 0, 1) := by decide +kernel
theorem dX8_spreads_28 : decode cX8_spreads 28 = .ok (.getfield 184, 3) := by decide +kernel
theorem dX8_spreads_31 : decode cX8_spreads 31 = .ok (.invokestatic 187, 3) := by decide +kernel
theorem dX8_spreads_34 : decode cX8_spreads 34 = .ok (.iadd, 1) := by decide +kernel
theorem dX8_spreads_35 : decode cX8_spreads 35 = .ok (.istore_n 1, 1) := by decide +kernel
theorem dX8_spreads_36 : decode cX8_spreads 36 = .ok (.aload_n 0, 1) := by decide +kernel
theorem dX8_spreads_37 : decode cX8_spreads 37 = .ok (.aload_n 0, 1) := by decide +kernel
theorem dX8_spreads_38 : decode cX8_spreads 38 = .ok (.getfield 184, 3) := by decide +kernel
theorem dX8_spreads_41 : decode cX8_spreads 41 = .ok (.aload_n 0, 1) := by decide +kernel
theorem dX8_spreads_42 : decode cX8_spreads 42 = .ok (.getfield 175, 3) := by decide +kernel
theorem dX8_spreads_45 : decode cX8_spreads 45 = .ok (.iconst 1, 1) := by decide +kernel
theorem dX8_spreads_46 : decode cX8_spreads 46 = .ok (.if_icmp .ne 7, 3) := by decide +kernel
theorem dX8_spreads_49 : decode cX8_spreads 49 = .ok (.iconst 2, 1) := by decide +kernel
theorem dX8_spreads_50 : decode cX8_spreads 50 = .ok (.goto 4, 3) := by decide +kernel
theorem dX8_spreads_53 : decode cX8_spreads 53 = .ok (.iconst 1, 1) := by decide +kernel
theorem dX8_spreads_54 : decode cX8_spreads 54 = .ok (.invokevirtual 165, 3) := by decide +kernel
theorem dX8_spreads_57 : decode cX8_spreads 57 = .ok (.aload_n 0, 1) := by decide +kernel
theorem dX8_spreads_58 : decode cX8_spreads 58 = .ok (.invokevirtual 232, 3) := by decide +kernel
theorem dX8_spreads_61 : decode cX8_spreads 61 = .ok (.goto (-51), 3) := by decide +kernel
theorem dX8_spreads_64 : decode cX8_spreads 64 = .ok (.iload_n 1, 1) := by decide +kernel
theorem dX8_spreads_65 : decode cX8_spreads 65 = .ok (.ireturn, 1) := by decide +kernel
theorem dX8_undo_0 : decode cX8_undo 0 = .ok (.aload_n 0, 1) := by decide +kernel
theorem dX8_undo_1 : decode cX8_undo 1 = .ok (.getfield 127, 3) := by decide +kernel
theorem dX8_undo_4 : decode cX8_undo 4 = .ok (.ifCond .ne 6, 3) := by decide +kernel
theorem dX8_undo_7 : decode cX8_undo 7 = .ok (.bipush (-2), 2) := by decide +kernel
theorem dX8_undo_9 : decode cX8_undo 9 = .ok (.ireturn, 1) := by decide +kernel
theorem dX8_undo_10 : decode cX8_undo 10 = .ok (.aload_n 0, 1) := by decide +kernel
theorem dX8_undo_11 : decode cX8_undo 11 = .ok (.dup, 1) := by decide +kernel
theorem dX8_undo_12 : decode cX8_undo 12 = .ok (.getfield 127, 3) := by decide +kernel
theorem dX8_undo_15 : decode cX8_undo 15 = .ok (.iconst 1, 1) := by decide +kernel
theorem dX8_undo_16 : decode cX8_undo 16 = .ok (.isub, 1) := by decide +kernel
theorem dX8_undo_17 : decode cX8_undo 17 = .ok (.putfield 127, 3) := by decide +kernel
theorem dX8_undo_20 : decode cX8_undo 20 = .ok (.aload_n 0, 1) := by decide +kernel
theorem dX8_undo_21 : decode cX8_undo 21 = .ok (.aload_n 0, 1) := by decide +kernel
theorem dX8_undo_22 : decode cX8_undo 22 = .ok (.getfield 36, 3) := by decide +kernel
theorem dX8_undo_25 : decode cX8_undo 25 = .ok (.iconst 3, 1) := by decide +kernel
theorem dX8_undo_26 : decode cX8_undo 26 = .ok (.aload_n 0, 1) := by decide +kernel
theorem dX8_undo_27 : decode cX8_undo 27 = .ok (.getfield 127, 3) := by decide +kernel
theorem dX8_undo_30 : decode cX8_undo 30 = .ok (.imul, 1) := by decide +kernel
theorem dX8_undo_31 : decode cX8_undo 31 = .ok (.laload, 1) := by decide +kernel
theorem dX8_undo_32 : decode cX8_undo 32 = .ok (.putfield 52, 3) := by decide +kernel
theorem dX8_undo_35 : decode cX8_undo 35 = .ok (.aload_n 0, 1) := by decide +kernel
theorem dX8_undo_36 : decode cX8_undo 36 = .ok (.aload_n 0, 1) := by decide +kernel
theorem dX8_undo_37 : decode cX8_undo 37 = .ok (.getfield 36, 3) := by decide +kernel
theorem dX8_undo_40 : decode cX8_undo 40 = .ok (.iconst 3, 1) := by decide +kernel
theorem dX8_undo_41 : decode cX8_undo 41 = .ok (.aload_n 0, 1) := by decide +kernel
theorem dX8_undo_42 : decode cX8_undo 42 = .ok (.getfield 127, 3) := by decide +kernel
theorem dX8_undo_45 : decode cX8_undo 45 = .ok (.imul, 1) := by decide +kernel
theorem dX8_undo_46 : decode cX8_undo 46 = .ok (.iconst 1, 1) := by decide +kernel
theorem dX8_undo_47 : decode cX8_undo 47 = .ok (.iadd, 1) := by decide +kernel
theorem dX8_undo_48 : decode cX8_undo 48 = .ok (.laload, 1) := by decide +kernel
theorem dX8_undo_49 : decode cX8_undo 49 = .ok (.putfield 83, 3) := by decide +kernel
theorem dX8_undo_52 : decode cX8_undo 52 = .ok (.aload_n 0, 1) := by decide +kernel
theorem dX8_undo_53 : decode cX8_undo 53 = .ok (.aload_n 0, 1) := by decide +kernel
theorem dX8_undo_54 : decode cX8_undo 54 = .ok (.getfield 36, 3) := by decide +kernel
theorem dX8_undo_57 : decode cX8_undo 57 = .ok (.iconst 3, 1) := by decide +kernel
theorem dX8_undo_58 : decode cX8_undo 58 = .ok (.aload_n 0, 1) := by decide +kernel
theorem dX8_undo_59 : decode cX8_undo 59 = .ok (.getfield 127, 3) := by decide +kernel
theorem dX8_undo_62 : decode cX8_undo 62 = .ok (.imul, 1) := by decide +kernel
theorem dX8_undo_63 : decode cX8_undo 63 = .ok (.iconst 2, 1) := by decide +kernel
theorem dX8_undo_64 : decode cX8_undo 64 = .ok (.iadd, 1) := by decide +kernel
theorem dX8_undo_65 : decode cX8_undo 65 = .ok (.laload, 1) := by decide +kernel
theorem dX8_undo_66 : decode cX8_undo 66 = .ok (.putfield 88, 3) := by decide +kernel
theorem dX8_undo_69 : decode cX8_undo 69 = .ok (.aload_n 0, 1) := by decide +kernel
theorem dX8_undo_70 : decode cX8_undo 70 = .ok (.getfield 127, 3) := by decide +kernel
theorem dX8_undo_73 : decode cX8_undo 73 = .ok (.ireturn, 1) := by decide +kernel
theorem dX8_hint_0 : decode cX8_hint 0 = .ok (.iload_n 1, 1) := by decide +kernel
theorem dX8_hint_1 : decode cX8_hint 1 = .ok (.i2l, 1) := by decide +kernel
theorem dX8_hint_2 : decode cX8_hint 2 = .ok (.lconst 0, 1) := by decide +kernel
theorem dX8_hint_3 : decode cX8_hint 3 = .ok (.ldc2_w 149, 3) := by decide +kernel
theorem dX8_hint_6 : decode cX8_hint 6 = .ok (.invokestatic 61, 3) := by decide +kernel
theorem dX8_hint_9 : decode cX8_hint 9 = .ok (.ifCond .ne 5, 3) := by decide +kernel
theorem dX8_hint_12 : decode cX8_hint 12 = .ok (.iconst (-1), 1) := by decide +kernel
theorem dX8_hint_13 : decode cX8_hint 13 = .ok (.ireturn, 1) := by decide +kernel
theorem dX8_hint_14 : decode cX8_hint 14 = .ok (.aload_n 0, 1) := by decide +kernel
theorem dX8_hint_15 : decode cX8_hint 15 = .ok (.invokevirtual 232, 3) := by decide +kernel
theorem dX8_hint_18 : decode cX8_hint 18 = .ok (.iload_n 1, 1) := by decide +kernel
theorem dX8_hint_19 : decode cX8_hint 19 = .ok (.ifCond .ne 8, 3) := by decide +kernel
theorem dX8_hint_22 : decode cX8_hint 22 = .ok (.aload_n 0, 1) := by decide +kernel
theorem dX8_hint_23 : decode cX8_hint 23 = .ok (.getfield 175, 3) := by decide +kernel
theorem dX8_hint_26 : decode cX8_hint 26 = .ok (.ireturn, 1) := by decide +kernel
theorem dX8_hint_27 : decode cX8_hint 27 = .ok (.aload_n 0, 1) := by decide +kernel
theorem dX8_hint_28 : decode cX8_hint 28 = .ok (.getfield 175, 3) := by decide +kernel
theorem dX8_hint_31 : decode cX8_hint 31 = .ok (.ifCond .ne 6, 3) := by decide +kernel
theorem dX8_hint_34 : decode cX8_hint 34 = .ok (.bipush (-9), 2) := by decide +kernel
theorem dX8_hint_36 : decode cX8_hint 36 = .ok (.ireturn, 1) := by decide +kernel
theorem dX8_hint_37 : decode cX8_hint 37 = .ok (.iload_n 1, 1) := by decide +kernel
theorem dX8_hint_38 : decode cX8_hint 38 = .ok (.iconst 1, 1) := by decide +kernel
theorem dX8_hint_39 : decode cX8_hint 39 = .ok (.if_icmp .ne 10, 3) := by decide +kernel
theorem dX8_hint_42 : decode cX8_hint 42 = .ok (.aload_n 0, 1) := by decide +kernel
theorem dX8_hint_43 : decode cX8_hint 43 = .ok (.getfield 178, 3) := by decide +kernel
theorem dX8_hint_46 : decode cX8_hint 46 = .ok (.goto 35, 3) := by decide +kernel
theorem dX8_hint_49 : decode cX8_hint 49 = .ok (.iload_n 1, 1) := by decide +kernel
theorem dX8_hint_50 : decode cX8_hint 50 = .ok (.iconst 2, 1) := by decide +kernel
theorem dX8_hint_51 : decode cX8_hint 51 = .ok (.if_icmp .ne 10, 3) := by decide +kernel
theorem dX8_hint_54 : decode cX8_hint 54 = .ok (.aload_n 0, 1) := by decide +kernel
theorem dX8_hint_55 : decode cX8_hint 55 = .ok (.getfield 181, 3) := by decide +kernel
theorem dX8_hint_58 : decode cX8_hint 58 = .ok (.goto 23, 3) := by decide +kernel
theorem dX8_hint_61 : decode cX8_hint 61 = .ok (.aload_n 0, 1) := by decide +kernel
theorem dX8_hint_62 : decode cX8_hint 62 = .ok (.getfield 175, 3) := by decide +kernel
theorem dX8_hint_65 : decode cX8_hint 65 = .ok (.iconst 3, 1) := by decide +kernel
theorem dX8_hint_66 : decode cX8_hint 66 = .ok (.if_icmp .ne 8, 3) := by decide +kernel
theorem dX8_hint_69 : decode cX8_hint 69 = .ok (.bipush (-9), 2) := by decide +kernel
theorem dX8_hint_71 : decode cX8_hint 71 = .ok (.goto 10, 3) := by decide +kernel
theorem dX8_hint_74 : decode cX8_hint 74 = .ok (.aload_n 0, 1) := by decide +kernel
theorem dX8_hint_75 : decode cX8_hint 75 = .ok (.getfield 184, 3) := by decide +kernel
theorem dX8_hint_78 : decode cX8_hint 78 = .ok (.invokestatic 187, 3) := by decide +kernel
theorem dX8_hint_81 : decode cX8_hint 81 = .ok (.ireturn, 1) := by decide +kernel
theorem dX8_hinted_0 : decode cX8_hinted 0 = .ok (.aload_n 0, 1) := by decide +kernel
theorem dX8_hinted_1 : decode cX8_hinted 1 = .ok (.invokevirtual 232, 3) := by decide +kernel
theorem dX8_hinted_4 : decode cX8_hinted 4 = .ok (.aload_n 0, 1) := by decide +kernel
theorem dX8_hinted_5 : decode cX8_hinted 5 = .ok (.getfield 184, 3) := by decide +kernel
theorem dX8_hinted_8 : decode cX8_hinted 8 = .ok (.lreturn, 1) := by decide +kernel
theorem dX8_around_0 : decode cX8_around 0 = .ok (.lconst 0, 1) := by decide +kernel
theorem dX8_around_1 : decode cX8_around 1 = .ok (.lstore_n 2, 1) := by decide +kernel
theorem dX8_around_2 : decode cX8_around 2 = .ok (.iconst 0, 1) := by decide +kernel
theorem dX8_around_3 : decode cX8_around 3 = .ok (.istore 4, 2) := by decide +kernel
theorem dX8_around_5 : decode cX8_around 5 = .ok (.iload 4, 2) := by decide +kernel
theorem dX8_around_7 : decode cX8_around 7 = .ok (.aload_n 0, 1) := by decide +kernel
theorem dX8_around_8 : decode cX8_around 8 = .ok (.getfield 19, 3) := by decide +kernel
theorem dX8_around_11 : decode cX8_around 11 = .ok (.if_icmp .ge 107, 3) := by decide +kernel
theorem dX8_around_14 : decode cX8_around 14 = .ok (.aload_n 0, 1) := by decide +kernel
theorem dX8_around_15 : decode cX8_around 15 = .ok (.getfield 29, 3) := by decide +kernel
theorem dX8_around_18 : decode cX8_around 18 = .ok (.iconst 2, 1) := by decide +kernel
theorem dX8_around_19 : decode cX8_around 19 = .ok (.iload 4, 2) := by decide +kernel
theorem dX8_around_21 : decode cX8_around 21 = .ok (.imul, 1) := by decide +kernel
theorem dX8_around_22 : decode cX8_around 22 = .ok (.iaload, 1) := by decide +kernel
theorem dX8_around_23 : decode cX8_around 23 = .ok (.bipush 16, 2) := by decide +kernel
theorem dX8_around_25 : decode cX8_around 25 = .ok (.if_icmp .ge 24, 3) := by decide +kernel
theorem dX8_around_28 : decode cX8_around 28 = .ok (.iload_n 1, 1) := by decide +kernel
theorem dX8_around_29 : decode cX8_around 29 = .ok (.i2l, 1) := by decide +kernel
theorem dX8_around_30 : decode cX8_around 30 = .ok (.aload_n 0, 1) := by decide +kernel
theorem dX8_around_31 : decode cX8_around 31 = .ok (.getfield 29, 3) := by decide +kernel
theorem dX8_around_34 : decode cX8_around 34 = .ok (.iconst 2, 1) := by decide +kernel
theorem dX8_around_35 : decode cX8_around 35 = .ok (.iload 4, 2) := by decide +kernel
theorem dX8_around_37 : decode cX8_around 37 = .ok (.imul, 1) := by decide +kernel
theorem dX8_around_38 : decode cX8_around 38 = .ok (.iaload, 1) := by decide +kernel
theorem dX8_around_39 : decode cX8_around 39 = .ok (.invokestatic 141, 3) := by decide +kernel
theorem dX8_around_42 : decode cX8_around 42 = .ok (.ifCond .eq 7, 3) := by decide +kernel
theorem dX8_around_45 : decode cX8_around 45 = .ok (.iconst 1, 1) := by decide +kernel
theorem dX8_around_46 : decode cX8_around 46 = .ok (.goto 4, 3) := by decide +kernel
theorem dX8_around_49 : decode cX8_around 49 = .ok (.iconst 0, 1) := by decide +kernel
theorem dX8_around_50 : decode cX8_around 50 = .ok (.istore 5, 2) := by decide +kernel
theorem dX8_around_52 : decode cX8_around 52 = .ok (.aload_n 0, 1) := by decide +kernel
theorem dX8_around_53 : decode cX8_around 53 = .ok (.getfield 29, 3) := by decide +kernel
theorem dX8_around_56 : decode cX8_around 56 = .ok (.iconst 2, 1) := by decide +kernel
theorem dX8_around_57 : decode cX8_around 57 = .ok (.iload 4, 2) := by decide +kernel
theorem dX8_around_59 : decode cX8_around 59 = .ok (.imul, 1) := by decide +kernel
theorem dX8_around_60 : decode cX8_around 60 = .ok (.iconst 1, 1) := by decide +kernel
theorem dX8_around_61 : decode cX8_around 61 = .ok (.iadd, 1) := by decide +kernel
theorem dX8_around_62 : decode cX8_around 62 = .ok (.iaload, 1) := by decide +kernel
theorem dX8_around_63 : decode cX8_around 63 = .ok (.bipush 16, 2) := by decide +kernel
theorem dX8_around_65 : decode cX8_around 65 = .ok (.if_icmp .ge 26, 3) := by decide +kernel
theorem dX8_around_68 : decode cX8_around 68 = .ok (.iload_n 1, 1) := by decide +kernel
theorem dX8_around_69 : decode cX8_around 69 = .ok (.i2l, 1) := by decide +kernel
theorem dX8_around_70 : decode cX8_around 70 = .ok (.aload_n 0, 1) := by decide +kernel
theorem dX8_around_71 : decode cX8_around 71 = .ok (.getfield 29, 3) := by decide +kernel
theorem dX8_around_74 : decode cX8_around 74 = .ok (.iconst 2, 1) := by decide +kernel
theorem dX8_around_75 : decode cX8_around 75 = .ok (.iload 4, 2) := by decide +kernel
theorem dX8_around_77 : decode cX8_around 77 = .ok (.imul, 1) := by decide +kernel
theorem dX8_around_78 : decode cX8_around 78 = .ok (.iconst 1, 1) := by decide +kernel
theorem dX8_around_79 : decode cX8_around 79 = .ok (.iadd, 1) := by decide +kernel
theorem dX8_around_80 : decode cX8_around 80 = .ok (.iaload, 1) := by decide +kernel
theorem dX8_around_81 : decode cX8_around 81 = .ok (.invokestatic 141, 3) := by decide +kernel
theorem dX8_around_84 : decode cX8_around 84 = .ok (.ifCond .eq 7, 3) := by decide +kernel
theorem dX8_around_87 : decode cX8_around 87 = .ok (.iconst 1, 1) := by decide +kernel
theorem dX8_around_88 : decode cX8_around 88 = .ok (.goto 4, 3) := by decide +kernel
theorem dX8_around_91 : decode cX8_around 91 = .ok (.iconst 0, 1) := by decide +kernel
theorem dX8_around_92 : decode cX8_around 92 = .ok (.istore 6, 2) := by decide +kernel
theorem dX8_around_94 : decode cX8_around 94 = .ok (.lload_n 2, 1) := by decide +kernel
theorem dX8_around_95 : decode cX8_around 95 = .ok (.iload 5, 2) := by decide +kernel
theorem dX8_around_97 : decode cX8_around 97 = .ok (.iload 6, 2) := by decide +kernel
theorem dX8_around_99 : decode cX8_around 99 = .ok (.if_icmp .eq 10, 3) := by decide +kernel
theorem dX8_around_102 : decode cX8_around 102 = .ok (.lconst 1, 1) := by decide +kernel
theorem dX8_around_103 : decode cX8_around 103 = .ok (.iload 4, 2) := by decide +kernel
theorem dX8_around_105 : decode cX8_around 105 = .ok (.lshl, 1) := by decide +kernel
theorem dX8_around_106 : decode cX8_around 106 = .ok (.goto 4, 3) := by decide +kernel
theorem dX8_around_109 : decode cX8_around 109 = .ok (.lconst 0, 1) := by decide +kernel
theorem dX8_around_110 : decode cX8_around 110 = .ok (.lor, 1) := by decide +kernel
theorem dX8_around_111 : decode cX8_around 111 = .ok (.lstore_n 2, 1) := by decide +kernel
theorem dX8_around_112 : decode cX8_around 112 = .ok (.iinc 4 1, 3) := by decide +kernel
theorem dX8_around_115 : decode cX8_around 115 = .ok (.goto (-110), 3) := by decide +kernel
theorem dX8_around_118 : decode cX8_around 118 = .ok (.lload_n 2, 1) := by decide +kernel
theorem dX8_around_119 : decode cX8_around 119 = .ok (.lreturn, 1) := by decide +kernel
theorem dX8_isRing_0 : decode cX8_isRing 0 = .ok (.iconst 1, 1) := by decide +kernel
theorem dX8_isRing_1 : decode cX8_isRing 1 = .ok (.istore_n 3, 1) := by decide +kernel
theorem dX8_isRing_2 : decode cX8_isRing 2 = .ok (.iconst 0, 1) := by decide +kernel
theorem dX8_isRing_3 : decode cX8_isRing 3 = .ok (.istore 4, 2) := by decide +kernel
theorem dX8_isRing_5 : decode cX8_isRing 5 = .ok (.iload 4, 2) := by decide +kernel
theorem dX8_isRing_7 : decode cX8_isRing 7 = .ok (.aload_n 0, 1) := by decide +kernel
theorem dX8_isRing_8 : decode cX8_isRing 8 = .ok (.invokevirtual 145, 3) := by decide +kernel
theorem dX8_isRing_11 : decode cX8_isRing 11 = .ok (.if_icmp .ge 44, 3) := by decide +kernel
theorem dX8_isRing_14 : decode cX8_isRing 14 = .ok (.iload_n 3, 1) := by decide +kernel
theorem dX8_isRing_15 : decode cX8_isRing 15 = .ok (.ifCond .eq 40, 3) := by decide +kernel
theorem dX8_isRing_18 : decode cX8_isRing 18 = .ok (.aload_n 0, 1) := by decide +kernel
theorem dX8_isRing_19 : decode cX8_isRing 19 = .ok (.getfield 26, 3) := by decide +kernel
theorem dX8_isRing_22 : decode cX8_isRing 22 = .ok (.iload 4, 2) := by decide +kernel
theorem dX8_isRing_24 : decode cX8_isRing 24 = .ok (.laload, 1) := by decide +kernel
theorem dX8_isRing_25 : decode cX8_isRing 25 = .ok (.lload_n 1, 1) := by decide +kernel
theorem dX8_isRing_26 : decode cX8_isRing 26 = .ok (.land, 1) := by decide +kernel
theorem dX8_isRing_27 : decode cX8_isRing 27 = .ok (.invokestatic 187, 3) := by decide +kernel
theorem dX8_isRing_30 : decode cX8_isRing 30 = .ok (.istore 5, 2) := by decide +kernel
theorem dX8_isRing_32 : decode cX8_isRing 32 = .ok (.iload 5, 2) := by decide +kernel
theorem dX8_isRing_34 : decode cX8_isRing 34 = .ok (.ifCond .eq 9, 3) := by decide +kernel
theorem dX8_isRing_37 : decode cX8_isRing 37 = .ok (.iload 5, 2) := by decide +kernel
theorem dX8_isRing_39 : decode cX8_isRing 39 = .ok (.iconst 2, 1) := by decide +kernel
theorem dX8_isRing_40 : decode cX8_isRing 40 = .ok (.if_icmp .ne 7, 3) := by decide +kernel
theorem dX8_isRing_43 : decode cX8_isRing 43 = .ok (.iconst 1, 1) := by decide +kernel
theorem dX8_isRing_44 : decode cX8_isRing 44 = .ok (.goto 4, 3) := by decide +kernel
theorem dX8_isRing_47 : decode cX8_isRing 47 = .ok (.iconst 0, 1) := by decide +kernel
theorem dX8_isRing_48 : decode cX8_isRing 48 = .ok (.istore_n 3, 1) := by decide +kernel
theorem dX8_isRing_49 : decode cX8_isRing 49 = .ok (.iinc 4 1, 3) := by decide +kernel
theorem dX8_isRing_52 : decode cX8_isRing 52 = .ok (.goto (-47), 3) := by decide +kernel
theorem dX8_isRing_55 : decode cX8_isRing 55 = .ok (.iload_n 3, 1) := by decide +kernel
theorem dX8_isRing_56 : decode cX8_isRing 56 = .ok (.ifCond .eq 21, 3) := by decide +kernel
theorem dX8_isRing_59 : decode cX8_isRing 59 = .ok (.aload_n 0, 1) := by decide +kernel
theorem dX8_isRing_60 : decode cX8_isRing 60 = .ok (.lload_n 1, 1) := by decide +kernel
theorem dX8_isRing_61 : decode cX8_isRing 61 = .ok (.lload_n 1, 1) := by decide +kernel
theorem dX8_isRing_62 : decode cX8_isRing 62 = .ok (.lneg, 1) := by decide +kernel
theorem dX8_isRing_63 : decode cX8_isRing 63 = .ok (.land, 1) := by decide +kernel
theorem dX8_isRing_64 : decode cX8_isRing 64 = .ok (.lload_n 1, 1) := by decide +kernel
theorem dX8_isRing_65 : decode cX8_isRing 65 = .ok (.invokevirtual 198, 3) := by decide +kernel
theorem dX8_isRing_68 : decode cX8_isRing 68 = .ok (.lload_n 1, 1) := by decide +kernel
theorem dX8_isRing_69 : decode cX8_isRing 69 = .ok (.lcmp, 1) := by decide +kernel
theorem dX8_isRing_70 : decode cX8_isRing 70 = .ok (.ifCond .ne 7, 3) := by decide +kernel
theorem dX8_isRing_73 : decode cX8_isRing 73 = .ok (.iconst 1, 1) := by decide +kernel
theorem dX8_isRing_74 : decode cX8_isRing 74 = .ok (.goto 4, 3) := by decide +kernel
theorem dX8_isRing_77 : decode cX8_isRing 77 = .ok (.iconst 0, 1) := by decide +kernel
theorem dX8_isRing_78 : decode cX8_isRing 78 = .ok (.ireturn, 1) := by decide +kernel
theorem dX8_laysRings_0 : decode cX8_laysRings 0 = .ok (.aload_n 0, 1) := by decide +kernel
theorem dX8_laysRings_1 : decode cX8_laysRings 1 = .ok (.getfield 235, 3) := by decide +kernel
theorem dX8_laysRings_4 : decode cX8_laysRings 4 = .ok (.aload_n 0, 1) := by decide +kernel
theorem dX8_laysRings_5 : decode cX8_laysRings 5 = .ok (.getfield 7, 3) := by decide +kernel
theorem dX8_laysRings_8 : decode cX8_laysRings 8 = .ok (.if_icmp .ne 15, 3) := by decide +kernel
theorem dX8_laysRings_11 : decode cX8_laysRings 11 = .ok (.aload_n 0, 1) := by decide +kernel
theorem dX8_laysRings_12 : decode cX8_laysRings 12 = .ok (.getfield 238, 3) := by decide +kernel
theorem dX8_laysRings_15 : decode cX8_laysRings 15 = .ok (.aload_n 0, 1) := by decide +kernel
theorem dX8_laysRings_16 : decode cX8_laysRings 16 = .ok (.getfield 13, 3) := by decide +kernel
theorem dX8_laysRings_19 : decode cX8_laysRings 19 = .ok (.if_icmp .ne 4, 3) := by decide +kernel
theorem dX8_laysRings_22 : decode cX8_laysRings 22 = .ok (.return_, 1) := by decide +kernel
theorem dX8_laysRings_23 : decode cX8_laysRings 23 = .ok (.aload_n 0, 1) := by decide +kernel
theorem dX8_laysRings_24 : decode cX8_laysRings 24 = .ok (.aload_n 0, 1) := by decide +kernel
theorem dX8_laysRings_25 : decode cX8_laysRings 25 = .ok (.getfield 7, 3) := by decide +kernel
theorem dX8_laysRings_28 : decode cX8_laysRings 28 = .ok (.putfield 235, 3) := by decide +kernel
theorem dX8_laysRings_31 : decode cX8_laysRings 31 = .ok (.aload_n 0, 1) := by decide +kernel
theorem dX8_laysRings_32 : decode cX8_laysRings 32 = .ok (.aload_n 0, 1) := by decide +kernel
theorem dX8_laysRings_33 : decode cX8_laysRings 33 = .ok (.getfield 13, 3) := by decide +kernel
theorem dX8_laysRings_36 : decode cX8_laysRings 36 = .ok (.putfield 238, 3) := by decide +kernel
theorem dX8_laysRings_39 : decode cX8_laysRings 39 = .ok (.aload_n 0, 1) := by decide +kernel
theorem dX8_laysRings_40 : decode cX8_laysRings 40 = .ok (.iconst 0, 1) := by decide +kernel
theorem dX8_laysRings_41 : decode cX8_laysRings 41 = .ok (.putfield 241, 3) := by decide +kernel
theorem dX8_laysRings_44 : decode cX8_laysRings 44 = .ok (.iconst 1, 1) := by decide +kernel
theorem dX8_laysRings_45 : decode cX8_laysRings 45 = .ok (.istore_n 1, 1) := by decide +kernel
theorem dX8_laysRings_46 : decode cX8_laysRings 46 = .ok (.iload_n 1, 1) := by decide +kernel
theorem dX8_laysRings_47 : decode cX8_laysRings 47 = .ok (.iconst 1, 1) := by decide +kernel
theorem dX8_laysRings_48 : decode cX8_laysRings 48 = .ok (.aload_n 0, 1) := by decide +kernel
theorem dX8_laysRings_49 : decode cX8_laysRings 49 = .ok (.getfield 16, 3) := by decide +kernel
theorem dX8_laysRings_52 : decode cX8_laysRings 52 = .ok (.ishl, 1) := by decide +kernel
theorem dX8_laysRings_53 : decode cX8_laysRings 53 = .ok (.if_icmp .ge 43, 3) := by decide +kernel
theorem dX8_laysRings_56 : decode cX8_laysRings 56 = .ok (.aload_n 0, 1) := by decide +kernel
theorem dX8_laysRings_57 : decode cX8_laysRings 57 = .ok (.iload_n 1, 1) := by decide +kernel
theorem dX8_laysRings_58 : decode cX8_laysRings 58 = .ok (.invokevirtual 244, 3) := by decide +kernel
theorem dX8_laysRings_61 : decode cX8_laysRings 61 = .ok (.lstore_n 2, 1) := by decide +kernel
theorem dX8_laysRings_62 : decode cX8_laysRings 62 = .ok (.aload_n 0, 1) := by decide +kernel
theorem dX8_laysRings_63 : decode cX8_laysRings 63 = .ok (.lload_n 2, 1) := by decide +kernel
theorem dX8_laysRings_64 : decode cX8_laysRings 64 = .ok (.invokevirtual 248, 3) := by decide +kernel
theorem dX8_laysRings_67 : decode cX8_laysRings 67 = .ok (.ifCond .eq 23, 3) := by decide +kernel
theorem dX8_laysRings_70 : decode cX8_laysRings 70 = .ok (.aload_n 0, 1) := by decide +kernel
theorem dX8_laysRings_71 : decode cX8_laysRings 71 = .ok (.getfield 46, 3) := by decide +kernel
theorem dX8_laysRings_74 : decode cX8_laysRings 74 = .ok (.aload_n 0, 1) := by decide +kernel
theorem dX8_laysRings_75 : decode cX8_laysRings 75 = .ok (.getfield 241, 3) := by decide +kernel
theorem dX8_laysRings_78 : decode cX8_laysRings 78 = .ok (.lload_n 2, 1) := by decide +kernel
theorem dX8_laysRings_79 : decode cX8_laysRings 79 = .ok (.lastore, 1) := by decide +kernel
theorem dX8_laysRings_80 : decode cX8_laysRings 80 = .ok (.aload_n 0, 1) := by decide +kernel
theorem dX8_laysRings_81 : decode cX8_laysRings 81 = .ok (.dup, 1) := by decide +kernel
theorem dX8_laysRings_82 : decode cX8_laysRings 82 = .ok (.getfield 241, 3) := by decide +kernel
theorem dX8_laysRings_85 : decode cX8_laysRings 85 = .ok (.iconst 1, 1) := by decide +kernel
theorem dX8_laysRings_86 : decode cX8_laysRings 86 = .ok (.iadd, 1) := by decide +kernel
theorem dX8_laysRings_87 : decode cX8_laysRings 87 = .ok (.putfield 241, 3) := by decide +kernel
theorem dX8_laysRings_90 : decode cX8_laysRings 90 = .ok (.iinc 1 1, 3) := by decide +kernel
theorem dX8_laysRings_93 : decode cX8_laysRings 93 = .ok (.goto (-47), 3) := by decide +kernel
theorem dX8_laysRings_96 : decode cX8_laysRings 96 = .ok (.sipush 4096, 3) := by decide +kernel
theorem dX8_laysRings_99 : decode cX8_laysRings 99 = .ok (.istore_n 1, 1) := by decide +kernel
theorem dX8_laysRings_100 : decode cX8_laysRings 100 = .ok (.iload_n 1, 1) := by decide +kernel
theorem dX8_laysRings_101 : decode cX8_laysRings 101 = .ok (.ifCond .le 89, 3) := by decide +kernel
theorem dX8_laysRings_104 : decode cX8_laysRings 104 = .ok (.iload_n 1, 1) := by decide +kernel
theorem dX8_laysRings_105 : decode cX8_laysRings 105 = .ok (.istore_n 2, 1) := by decide +kernel
theorem dX8_laysRings_106 : decode cX8_laysRings 106 = .ok (.iload_n 2, 1) := by decide +kernel
theorem dX8_laysRings_107 : decode cX8_laysRings 107 = .ok (.aload_n 0, 1) := by decide +kernel
theorem dX8_laysRings_108 : decode cX8_laysRings 108 = .ok (.getfield 241, 3) := by decide +kernel
theorem dX8_laysRings_111 : decode cX8_laysRings 111 = .ok (.if_icmp .ge 72, 3) := by decide +kernel
theorem dX8_laysRings_114 : decode cX8_laysRings 114 = .ok (.aload_n 0, 1) := by decide +kernel
theorem dX8_laysRings_115 : decode cX8_laysRings 115 = .ok (.getfield 46, 3) := by decide +kernel
theorem dX8_laysRings_118 : decode cX8_laysRings 118 = .ok (.iload_n 2, 1) := by decide +kernel
theorem dX8_laysRings_119 : decode cX8_laysRings 119 = .ok (.laload, 1) := by decide +kernel
theorem dX8_laysRings_120 : decode cX8_laysRings 120 = .ok (.lstore_n 3, 1) := by decide +kernel
theorem dX8_laysRings_121 : decode cX8_laysRings 121 = .ok (.iload_n 2, 1) := by decide +kernel
theorem dX8_laysRings_122 : decode cX8_laysRings 122 = .ok (.istore 5, 2) := by decide +kernel
theorem dX8_laysRings_124 : decode cX8_laysRings 124 = .ok (.iload 5, 2) := by decide +kernel
theorem dX8_laysRings_126 : decode cX8_laysRings 126 = .ok (.iload_n 1, 1) := by decide +kernel
theorem dX8_laysRings_127 : decode cX8_laysRings 127 = .ok (.if_icmp .lt 42, 3) := by decide +kernel
theorem dX8_laysRings_130 : decode cX8_laysRings 130 = .ok (.aload_n 0, 1) := by decide +kernel
theorem dX8_laysRings_131 : decode cX8_laysRings 131 = .ok (.getfield 46, 3) := by decide +kernel
theorem dX8_laysRings_134 : decode cX8_laysRings 134 = .ok (.iload 5, 2) := by decide +kernel
theorem dX8_laysRings_136 : decode cX8_laysRings 136 = .ok (.iload_n 1, 1) := by decide +kernel
theorem dX8_laysRings_137 : decode cX8_laysRings 137 = .ok (.isub, 1) := by decide +kernel
theorem dX8_laysRings_138 : decode cX8_laysRings 138 = .ok (.laload, 1) := by decide +kernel
theorem dX8_laysRings_139 : decode cX8_laysRings 139 = .ok (.lload_n 3, 1) := by decide +kernel
theorem dX8_laysRings_140 : decode cX8_laysRings 140 = .ok (.lcmp, 1) := by decide +kernel
theorem dX8_laysRings_141 : decode cX8_laysRings 141 = .ok (.ifCond .le 28, 3) := by decide +kernel
theorem dX8_laysRings_144 : decode cX8_laysRings 144 = .ok (.aload_n 0, 1) := by decide +kernel
theorem dX8_laysRings_145 : decode cX8_laysRings 145 = .ok (.getfield 46, 3) := by decide +kernel
theorem dX8_laysRings_148 : decode cX8_laysRings 148 = .ok (.iload 5, 2) := by decide +kernel
theorem dX8_laysRings_150 : decode cX8_laysRings 150 = .ok (.aload_n 0, 1) := by decide +kernel
theorem dX8_laysRings_151 : decode cX8_laysRings 151 = .ok (.getfield 46, 3) := by decide +kernel
theorem dX8_laysRings_154 : decode cX8_laysRings 154 = .ok (.iload 5, 2) := by decide +kernel
theorem dX8_laysRings_156 : decode cX8_laysRings 156 = .ok (.iload_n 1, 1) := by decide +kernel
theorem dX8_laysRings_157 : decode cX8_laysRings 157 = .ok (.isub, 1) := by decide +kernel
theorem dX8_laysRings_158 : decode cX8_laysRings 158 = .ok (.laload, 1) := by decide +kernel
theorem dX8_laysRings_159 : decode cX8_laysRings 159 = .ok (.lastore, 1) := by decide +kernel
theorem dX8_laysRings_160 : decode cX8_laysRings 160 = .ok (.iload 5, 2) := by decide +kernel
theorem dX8_laysRings_162 : decode cX8_laysRings 162 = .ok (.iload_n 1, 1) := by decide +kernel
theorem dX8_laysRings_163 : decode cX8_laysRings 163 = .ok (.isub, 1) := by decide +kernel
theorem dX8_laysRings_164 : decode cX8_laysRings 164 = .ok (.istore 5, 2) := by decide +kernel
theorem dX8_laysRings_166 : decode cX8_laysRings 166 = .ok (.goto (-42), 3) := by decide +kernel
theorem dX8_laysRings_169 : decode cX8_laysRings 169 = .ok (.aload_n 0, 1) := by decide +kernel
theorem dX8_laysRings_170 : decode cX8_laysRings 170 = .ok (.getfield 46, 3) := by decide +kernel
theorem dX8_laysRings_173 : decode cX8_laysRings 173 = .ok (.iload 5, 2) := by decide +kernel
theorem dX8_laysRings_175 : decode cX8_laysRings 175 = .ok (.lload_n 3, 1) := by decide +kernel
theorem dX8_laysRings_176 : decode cX8_laysRings 176 = .ok (.lastore, 1) := by decide +kernel
theorem dX8_laysRings_177 : decode cX8_laysRings 177 = .ok (.iinc 2 1, 3) := by decide +kernel
theorem dX8_laysRings_180 : decode cX8_laysRings 180 = .ok (.goto (-74), 3) := by decide +kernel
theorem dX8_laysRings_183 : decode cX8_laysRings 183 = .ok (.iload_n 1, 1) := by decide +kernel
theorem dX8_laysRings_184 : decode cX8_laysRings 184 = .ok (.iconst 2, 1) := by decide +kernel
theorem dX8_laysRings_185 : decode cX8_laysRings 185 = .ok (.idiv, 1) := by decide +kernel
theorem dX8_laysRings_186 : decode cX8_laysRings 186 = .ok (.istore_n 1, 1) := by decide +kernel
theorem dX8_laysRings_187 : decode cX8_laysRings 187 = .ok (.goto (-87), 3) := by decide +kernel
theorem dX8_laysRings_190 : decode cX8_laysRings 190 = .ok (.return_, 1) := by decide +kernel
theorem dX8_fits_0 : decode cX8_fits 0 = .ok (.aload_n 0, 1) := by decide +kernel
theorem dX8_fits_1 : decode cX8_fits 1 = .ok (.getfield 83, 3) := by decide +kernel
theorem dX8_fits_4 : decode cX8_fits 4 = .ok (.lload_n 1, 1) := by decide +kernel
theorem dX8_fits_5 : decode cX8_fits 5 = .ok (.ldc2_w 86, 3) := by decide +kernel
theorem dX8_fits_8 : decode cX8_fits 8 = .ok (.lxor, 1) := by decide +kernel
theorem dX8_fits_9 : decode cX8_fits 9 = .ok (.land, 1) := by decide +kernel
theorem dX8_fits_10 : decode cX8_fits 10 = .ok (.lconst 0, 1) := by decide +kernel
theorem dX8_fits_11 : decode cX8_fits 11 = .ok (.lcmp, 1) := by decide +kernel
theorem dX8_fits_12 : decode cX8_fits 12 = .ok (.ifCond .ne 18, 3) := by decide +kernel
theorem dX8_fits_15 : decode cX8_fits 15 = .ok (.aload_n 0, 1) := by decide +kernel
theorem dX8_fits_16 : decode cX8_fits 16 = .ok (.getfield 88, 3) := by decide +kernel
theorem dX8_fits_19 : decode cX8_fits 19 = .ok (.lload_n 1, 1) := by decide +kernel
theorem dX8_fits_20 : decode cX8_fits 20 = .ok (.land, 1) := by decide +kernel
theorem dX8_fits_21 : decode cX8_fits 21 = .ok (.lconst 0, 1) := by decide +kernel
theorem dX8_fits_22 : decode cX8_fits 22 = .ok (.lcmp, 1) := by decide +kernel
theorem dX8_fits_23 : decode cX8_fits 23 = .ok (.ifCond .ne 7, 3) := by decide +kernel
theorem dX8_fits_26 : decode cX8_fits 26 = .ok (.iconst 1, 1) := by decide +kernel
theorem dX8_fits_27 : decode cX8_fits 27 = .ok (.goto 4, 3) := by decide +kernel
theorem dX8_fits_30 : decode cX8_fits 30 = .ok (.iconst 0, 1) := by decide +kernel
theorem dX8_fits_31 : decode cX8_fits 31 = .ok (.istore 4, 2) := by decide +kernel
theorem dX8_fits_33 : decode cX8_fits 33 = .ok (.iconst 0, 1) := by decide +kernel
theorem dX8_fits_34 : decode cX8_fits 34 = .ok (.istore 5, 2) := by decide +kernel
theorem dX8_fits_36 : decode cX8_fits 36 = .ok (.iload 5, 2) := by decide +kernel
theorem dX8_fits_38 : decode cX8_fits 38 = .ok (.aload_n 0, 1) := by decide +kernel
theorem dX8_fits_39 : decode cX8_fits 39 = .ok (.getfield 16, 3) := by decide +kernel
theorem dX8_fits_42 : decode cX8_fits 42 = .ok (.if_icmp .ge 58, 3) := by decide +kernel
theorem dX8_fits_45 : decode cX8_fits 45 = .ok (.iload 4, 2) := by decide +kernel
theorem dX8_fits_47 : decode cX8_fits 47 = .ok (.ifCond .eq 53, 3) := by decide +kernel
theorem dX8_fits_50 : decode cX8_fits 50 = .ok (.iload 5, 2) := by decide +kernel
theorem dX8_fits_52 : decode cX8_fits 52 = .ok (.iload_n 3, 1) := by decide +kernel
theorem dX8_fits_53 : decode cX8_fits 53 = .ok (.if_icmp .eq 34, 3) := by decide +kernel
theorem dX8_fits_56 : decode cX8_fits 56 = .ok (.aload_n 0, 1) := by decide +kernel
theorem dX8_fits_57 : decode cX8_fits 57 = .ok (.iload 5, 2) := by decide +kernel
theorem dX8_fits_59 : decode cX8_fits 59 = .ok (.invokevirtual 134, 3) := by decide +kernel
theorem dX8_fits_62 : decode cX8_fits 62 = .ok (.iconst 5, 1) := by decide +kernel
theorem dX8_fits_63 : decode cX8_fits 63 = .ok (.if_icmp .eq 24, 3) := by decide +kernel
theorem dX8_fits_66 : decode cX8_fits 66 = .ok (.aload_n 0, 1) := by decide +kernel
theorem dX8_fits_67 : decode cX8_fits 67 = .ok (.getfield 22, 3) := by decide +kernel
theorem dX8_fits_70 : decode cX8_fits 70 = .ok (.iload 5, 2) := by decide +kernel
theorem dX8_fits_72 : decode cX8_fits 72 = .ok (.laload, 1) := by decide +kernel
theorem dX8_fits_73 : decode cX8_fits 73 = .ok (.lload_n 1, 1) := by decide +kernel
theorem dX8_fits_74 : decode cX8_fits 74 = .ok (.land, 1) := by decide +kernel
theorem dX8_fits_75 : decode cX8_fits 75 = .ok (.invokestatic 187, 3) := by decide +kernel
theorem dX8_fits_78 : decode cX8_fits 78 = .ok (.aload_n 0, 1) := by decide +kernel
theorem dX8_fits_79 : decode cX8_fits 79 = .ok (.iload 5, 2) := by decide +kernel
theorem dX8_fits_81 : decode cX8_fits 81 = .ok (.invokevirtual 134, 3) := by decide +kernel
theorem dX8_fits_84 : decode cX8_fits 84 = .ok (.if_icmp .ne 7, 3) := by decide +kernel
theorem dX8_fits_87 : decode cX8_fits 87 = .ok (.iconst 1, 1) := by decide +kernel
theorem dX8_fits_88 : decode cX8_fits 88 = .ok (.goto 4, 3) := by decide +kernel
theorem dX8_fits_91 : decode cX8_fits 91 = .ok (.iconst 0, 1) := by decide +kernel
theorem dX8_fits_92 : decode cX8_fits 92 = .ok (.istore 4, 2) := by decide +kernel
theorem dX8_fits_94 : decode cX8_fits 94 = .ok (.iinc 5 1, 3) := by decide +kernel
theorem dX8_fits_97 : decode cX8_fits 97 = .ok (.goto (-61), 3) := by decide +kernel
theorem dX8_fits_100 : decode cX8_fits 100 = .ok (.iload 4, 2) := by decide +kernel
theorem dX8_fits_102 : decode cX8_fits 102 = .ok (.ireturn, 1) := by decide +kernel
theorem dX8_manyBut_0 : decode cX8_manyBut 0 = .ok (.aload_n 0, 1) := by decide +kernel
theorem dX8_manyBut_1 : decode cX8_manyBut 1 = .ok (.invokevirtual 251, 3) := by decide +kernel
theorem dX8_manyBut_4 : decode cX8_manyBut 4 = .ok (.iconst 0, 1) := by decide +kernel
theorem dX8_manyBut_5 : decode cX8_manyBut 5 = .ok (.istore_n 3, 1) := by decide +kernel
theorem dX8_manyBut_6 : decode cX8_manyBut 6 = .ok (.iconst 0, 1) := by decide +kernel
theorem dX8_manyBut_7 : decode cX8_manyBut 7 = .ok (.istore 4, 2) := by decide +kernel
theorem dX8_manyBut_9 : decode cX8_manyBut 9 = .ok (.iload 4, 2) := by decide +kernel
theorem dX8_manyBut_11 : decode cX8_manyBut 11 = .ok (.aload_n 0, 1) := by decide +kernel
theorem dX8_manyBut_12 : decode cX8_manyBut 12 = .ok (.getfield 241, 3) := by decide +kernel
theorem dX8_manyBut_15 : decode cX8_manyBut 15 = .ok (.if_icmp .ge 37, 3) := by decide +kernel
theorem dX8_manyBut_18 : decode cX8_manyBut 18 = .ok (.iload_n 3, 1) := by decide +kernel
theorem dX8_manyBut_19 : decode cX8_manyBut 19 = .ok (.iload_n 1, 1) := by decide +kernel
theorem dX8_manyBut_20 : decode cX8_manyBut 20 = .ok (.if_icmp .ge 32, 3) := by decide +kernel
theorem dX8_manyBut_23 : decode cX8_manyBut 23 = .ok (.iload_n 3, 1) := by decide +kernel
theorem dX8_manyBut_24 : decode cX8_manyBut 24 = .ok (.aload_n 0, 1) := by decide +kernel
theorem dX8_manyBut_25 : decode cX8_manyBut 25 = .ok (.aload_n 0, 1) := by decide +kernel
theorem dX8_manyBut_26 : decode cX8_manyBut 26 = .ok (.getfield 46, 3) := by decide +kernel
theorem dX8_manyBut_29 : decode cX8_manyBut 29 = .ok (.iload 4, 2) := by decide +kernel
theorem dX8_manyBut_31 : decode cX8_manyBut 31 = .ok (.laload, 1) := by decide +kernel
theorem dX8_manyBut_32 : decode cX8_manyBut 32 = .ok (.iload_n 2, 1) := by decide +kernel
theorem dX8_manyBut_33 : decode cX8_manyBut 33 = .ok (.invokevirtual 254, 3) := by decide +kernel
theorem dX8_manyBut_36 : decode cX8_manyBut 36 = .ok (.ifCond .eq 7, 3) := by decide +kernel
theorem dX8_manyBut_39 : decode cX8_manyBut 39 = .ok (.iconst 1, 1) := by decide +kernel
theorem dX8_manyBut_40 : decode cX8_manyBut 40 = .ok (.goto 4, 3) := by decide +kernel
theorem dX8_manyBut_43 : decode cX8_manyBut 43 = .ok (.iconst 0, 1) := by decide +kernel
theorem dX8_manyBut_44 : decode cX8_manyBut 44 = .ok (.iadd, 1) := by decide +kernel
theorem dX8_manyBut_45 : decode cX8_manyBut 45 = .ok (.istore_n 3, 1) := by decide +kernel
theorem dX8_manyBut_46 : decode cX8_manyBut 46 = .ok (.iinc 4 1, 3) := by decide +kernel
theorem dX8_manyBut_49 : decode cX8_manyBut 49 = .ok (.goto (-40), 3) := by decide +kernel
theorem dX8_manyBut_52 : decode cX8_manyBut 52 = .ok (.iload_n 3, 1) := by decide +kernel
theorem dX8_manyBut_53 : decode cX8_manyBut 53 = .ok (.ireturn, 1) := by decide +kernel
theorem dX8_many_0 : decode cX8_many 0 = .ok (.iload_n 1, 1) := by decide +kernel
theorem dX8_many_1 : decode cX8_many 1 = .ok (.i2l, 1) := by decide +kernel
theorem dX8_many_2 : decode cX8_many 2 = .ok (.lconst 1, 1) := by decide +kernel
theorem dX8_many_3 : decode cX8_many 3 = .ok (.ldc2_w 257, 3) := by decide +kernel
theorem dX8_many_6 : decode cX8_many 6 = .ok (.invokestatic 61, 3) := by decide +kernel
theorem dX8_many_9 : decode cX8_many 9 = .ok (.ifCond .eq 13, 3) := by decide +kernel
theorem dX8_many_12 : decode cX8_many 12 = .ok (.aload_n 0, 1) := by decide +kernel
theorem dX8_many_13 : decode cX8_many 13 = .ok (.iload_n 1, 1) := by decide +kernel
theorem dX8_many_14 : decode cX8_many 14 = .ok (.bipush 16, 2) := by decide +kernel
theorem dX8_many_16 : decode cX8_many 16 = .ok (.invokevirtual 259, 3) := by decide +kernel
theorem dX8_many_19 : decode cX8_many 19 = .ok (.goto 4, 3) := by decide +kernel
theorem dX8_many_22 : decode cX8_many 22 = .ok (.iconst (-1), 1) := by decide +kernel
theorem dX8_many_23 : decode cX8_many 23 = .ok (.ireturn, 1) := by decide +kernel
theorem dX8_loopAt_0 : decode cX8_loopAt 0 = .ok (.aload_n 0, 1) := by decide +kernel
theorem dX8_loopAt_1 : decode cX8_loopAt 1 = .ok (.invokevirtual 251, 3) := by decide +kernel
theorem dX8_loopAt_4 : decode cX8_loopAt 4 = .ok (.iload_n 1, 1) := by decide +kernel
theorem dX8_loopAt_5 : decode cX8_loopAt 5 = .ok (.istore_n 2, 1) := by decide +kernel
theorem dX8_loopAt_6 : decode cX8_loopAt 6 = .ok (.iconst 0, 1) := by decide +kernel
theorem dX8_loopAt_7 : decode cX8_loopAt 7 = .ok (.istore_n 3, 1) := by decide +kernel
theorem dX8_loopAt_8 : decode cX8_loopAt 8 = .ok (.iload_n 3, 1) := by decide +kernel
theorem dX8_loopAt_9 : decode cX8_loopAt 9 = .ok (.aload_n 0, 1) := by decide +kernel
theorem dX8_loopAt_10 : decode cX8_loopAt 10 = .ok (.getfield 241, 3) := by decide +kernel
theorem dX8_loopAt_13 : decode cX8_loopAt 13 = .ok (.if_icmp .ge 38, 3) := by decide +kernel
theorem dX8_loopAt_16 : decode cX8_loopAt 16 = .ok (.aload_n 0, 1) := by decide +kernel
theorem dX8_loopAt_17 : decode cX8_loopAt 17 = .ok (.aload_n 0, 1) := by decide +kernel
theorem dX8_loopAt_18 : decode cX8_loopAt 18 = .ok (.getfield 46, 3) := by decide +kernel
theorem dX8_loopAt_21 : decode cX8_loopAt 21 = .ok (.iload_n 3, 1) := by decide +kernel
theorem dX8_loopAt_22 : decode cX8_loopAt 22 = .ok (.laload, 1) := by decide +kernel
theorem dX8_loopAt_23 : decode cX8_loopAt 23 = .ok (.bipush 16, 2) := by decide +kernel
theorem dX8_loopAt_25 : decode cX8_loopAt 25 = .ok (.invokevirtual 254, 3) := by decide +kernel
theorem dX8_loopAt_28 : decode cX8_loopAt 28 = .ok (.ifCond .eq 17, 3) := by decide +kernel
theorem dX8_loopAt_31 : decode cX8_loopAt 31 = .ok (.iload_n 2, 1) := by decide +kernel
theorem dX8_loopAt_32 : decode cX8_loopAt 32 = .ok (.ifCond .ne 10, 3) := by decide +kernel
theorem dX8_loopAt_35 : decode cX8_loopAt 35 = .ok (.aload_n 0, 1) := by decide +kernel
theorem dX8_loopAt_36 : decode cX8_loopAt 36 = .ok (.getfield 46, 3) := by decide +kernel
theorem dX8_loopAt_39 : decode cX8_loopAt 39 = .ok (.iload_n 3, 1) := by decide +kernel
theorem dX8_loopAt_40 : decode cX8_loopAt 40 = .ok (.laload, 1) := by decide +kernel
theorem dX8_loopAt_41 : decode cX8_loopAt 41 = .ok (.lreturn, 1) := by decide +kernel
theorem dX8_loopAt_42 : decode cX8_loopAt 42 = .ok (.iinc 2 (-1), 3) := by decide +kernel
theorem dX8_loopAt_45 : decode cX8_loopAt 45 = .ok (.iinc 3 1, 3) := by decide +kernel
theorem dX8_loopAt_48 : decode cX8_loopAt 48 = .ok (.goto (-40), 3) := by decide +kernel
theorem dX8_loopAt_51 : decode cX8_loopAt 51 = .ok (.ldc2_w 262, 3) := by decide +kernel
theorem dX8_loopAt_54 : decode cX8_loopAt 54 = .ok (.lreturn, 1) := by decide +kernel
theorem dX8_loop_0 : decode cX8_loop 0 = .ok (.iload_n 1, 1) := by decide +kernel
theorem dX8_loop_1 : decode cX8_loop 1 = .ok (.i2l, 1) := by decide +kernel
theorem dX8_loop_2 : decode cX8_loop 2 = .ok (.lconst 0, 1) := by decide +kernel
theorem dX8_loop_3 : decode cX8_loop 3 = .ok (.ldc2_w 264, 3) := by decide +kernel
theorem dX8_loop_6 : decode cX8_loop 6 = .ok (.invokestatic 61, 3) := by decide +kernel
theorem dX8_loop_9 : decode cX8_loop 9 = .ok (.ifCond .eq 11, 3) := by decide +kernel
theorem dX8_loop_12 : decode cX8_loop 12 = .ok (.aload_n 0, 1) := by decide +kernel
theorem dX8_loop_13 : decode cX8_loop 13 = .ok (.iload_n 1, 1) := by decide +kernel
theorem dX8_loop_14 : decode cX8_loop 14 = .ok (.invokevirtual 266, 3) := by decide +kernel
theorem dX8_loop_17 : decode cX8_loop 17 = .ok (.goto 6, 3) := by decide +kernel
theorem dX8_loop_20 : decode cX8_loop 20 = .ok (.ldc2_w 86, 3) := by decide +kernel
theorem dX8_loop_23 : decode cX8_loop 23 = .ok (.lreturn, 1) := by decide +kernel
theorem dX8_forced_0 : decode cX8_forced 0 = .ok (.iload_n 1, 1) := by decide +kernel
theorem dX8_forced_1 : decode cX8_forced 1 = .ok (.i2l, 1) := by decide +kernel
theorem dX8_forced_2 : decode cX8_forced 2 = .ok (.lconst 0, 1) := by decide +kernel
theorem dX8_forced_3 : decode cX8_forced 3 = .ok (.lconst 1, 1) := by decide +kernel
theorem dX8_forced_4 : decode cX8_forced 4 = .ok (.invokestatic 61, 3) := by decide +kernel
theorem dX8_forced_7 : decode cX8_forced 7 = .ok (.ifCond .ne 7, 3) := by decide +kernel
theorem dX8_forced_10 : decode cX8_forced 10 = .ok (.ldc2_w 86, 3) := by decide +kernel
theorem dX8_forced_13 : decode cX8_forced 13 = .ok (.lreturn, 1) := by decide +kernel
theorem dX8_forced_14 : decode cX8_forced 14 = .ok (.aload_n 0, 1) := by decide +kernel
theorem dX8_forced_15 : decode cX8_forced 15 = .ok (.invokevirtual 251, 3) := by decide +kernel
theorem dX8_forced_18 : decode cX8_forced 18 = .ok (.aload_n 0, 1) := by decide +kernel
theorem dX8_forced_19 : decode cX8_forced 19 = .ok (.invokevirtual 79, 3) := by decide +kernel
theorem dX8_forced_22 : decode cX8_forced 22 = .ok (.lstore_n 2, 1) := by decide +kernel
theorem dX8_forced_23 : decode cX8_forced 23 = .ok (.aload_n 0, 1) := by decide +kernel
theorem dX8_forced_24 : decode cX8_forced 24 = .ok (.invokevirtual 79, 3) := by decide +kernel
theorem dX8_forced_27 : decode cX8_forced 27 = .ok (.lstore 4, 2) := by decide +kernel
theorem dX8_forced_29 : decode cX8_forced 29 = .ok (.iconst 0, 1) := by decide +kernel
theorem dX8_forced_30 : decode cX8_forced 30 = .ok (.istore 6, 2) := by decide +kernel
theorem dX8_forced_32 : decode cX8_forced 32 = .ok (.iconst 0, 1) := by decide +kernel
theorem dX8_forced_33 : decode cX8_forced 33 = .ok (.istore 7, 2) := by decide +kernel
theorem dX8_forced_35 : decode cX8_forced 35 = .ok (.iload 7, 2) := by decide +kernel
theorem dX8_forced_37 : decode cX8_forced 37 = .ok (.aload_n 0, 1) := by decide +kernel
theorem dX8_forced_38 : decode cX8_forced 38 = .ok (.getfield 241, 3) := by decide +kernel
theorem dX8_forced_41 : decode cX8_forced 41 = .ok (.if_icmp .ge 54, 3) := by decide +kernel
theorem dX8_forced_44 : decode cX8_forced 44 = .ok (.aload_n 0, 1) := by decide +kernel
theorem dX8_forced_45 : decode cX8_forced 45 = .ok (.aload_n 0, 1) := by decide +kernel
theorem dX8_forced_46 : decode cX8_forced 46 = .ok (.getfield 46, 3) := by decide +kernel
theorem dX8_forced_49 : decode cX8_forced 49 = .ok (.iload 7, 2) := by decide +kernel
theorem dX8_forced_51 : decode cX8_forced 51 = .ok (.laload, 1) := by decide +kernel
theorem dX8_forced_52 : decode cX8_forced 52 = .ok (.bipush 16, 2) := by decide +kernel
theorem dX8_forced_54 : decode cX8_forced 54 = .ok (.invokevirtual 254, 3) := by decide +kernel
theorem dX8_forced_57 : decode cX8_forced 57 = .ok (.ifCond .eq 32, 3) := by decide +kernel
theorem dX8_forced_60 : decode cX8_forced 60 = .ok (.lload_n 2, 1) := by decide +kernel
theorem dX8_forced_61 : decode cX8_forced 61 = .ok (.aload_n 0, 1) := by decide +kernel
theorem dX8_forced_62 : decode cX8_forced 62 = .ok (.getfield 46, 3) := by decide +kernel
theorem dX8_forced_65 : decode cX8_forced 65 = .ok (.iload 7, 2) := by decide +kernel
theorem dX8_forced_67 : decode cX8_forced 67 = .ok (.laload, 1) := by decide +kernel
theorem dX8_forced_68 : decode cX8_forced 68 = .ok (.land, 1) := by decide +kernel
theorem dX8_forced_69 : decode cX8_forced 69 = .ok (.lstore_n 2, 1) := by decide +kernel
theorem dX8_forced_70 : decode cX8_forced 70 = .ok (.lload 4, 2) := by decide +kernel
theorem dX8_forced_72 : decode cX8_forced 72 = .ok (.aload_n 0, 1) := by decide +kernel
theorem dX8_forced_73 : decode cX8_forced 73 = .ok (.getfield 46, 3) := by decide +kernel
theorem dX8_forced_76 : decode cX8_forced 76 = .ok (.iload 7, 2) := by decide +kernel
theorem dX8_forced_78 : decode cX8_forced 78 = .ok (.laload, 1) := by decide +kernel
theorem dX8_forced_79 : decode cX8_forced 79 = .ok (.ldc2_w 86, 3) := by decide +kernel
theorem dX8_forced_82 : decode cX8_forced 82 = .ok (.lxor, 1) := by decide +kernel
theorem dX8_forced_83 : decode cX8_forced 83 = .ok (.land, 1) := by decide +kernel
theorem dX8_forced_84 : decode cX8_forced 84 = .ok (.lstore 4, 2) := by decide +kernel
theorem dX8_forced_86 : decode cX8_forced 86 = .ok (.iinc 6 1, 3) := by decide +kernel
theorem dX8_forced_89 : decode cX8_forced 89 = .ok (.iinc 7 1, 3) := by decide +kernel
theorem dX8_forced_92 : decode cX8_forced 92 = .ok (.goto (-57), 3) := by decide +kernel
theorem dX8_forced_95 : decode cX8_forced 95 = .ok (.iload 6, 2) := by decide +kernel
theorem dX8_forced_97 : decode cX8_forced 97 = .ok (.ifCond .ne 9, 3) := by decide +kernel
theorem dX8_forced_100 : decode cX8_forced 100 = .ok (.ldc2_w 262, 3) := by decide +kernel
theorem dX8_forced_103 : decode cX8_forced 103 = .ok (.goto 13, 3) := by decide +kernel
theorem dX8_forced_106 : decode cX8_forced 106 = .ok (.iload_n 1, 1) := by decide +kernel
theorem dX8_forced_107 : decode cX8_forced 107 = .ok (.ifCond .ne 7, 3) := by decide +kernel
theorem dX8_forced_110 : decode cX8_forced 110 = .ok (.lload_n 2, 1) := by decide +kernel
theorem dX8_forced_111 : decode cX8_forced 111 = .ok (.goto 5, 3) := by decide +kernel
theorem dX8_forced_114 : decode cX8_forced 114 = .ok (.lload 4, 2) := by decide +kernel
theorem dX8_forced_116 : decode cX8_forced 116 = .ok (.lreturn, 1) := by decide +kernel
theorem dX8_inside_0 : decode cX8_inside 0 = .ok (.iload_n 1, 1) := by decide +kernel
theorem dX8_inside_1 : decode cX8_inside 1 = .ok (.i2l, 1) := by decide +kernel
theorem dX8_inside_2 : decode cX8_inside 2 = .ok (.lconst 0, 1) := by decide +kernel
theorem dX8_inside_3 : decode cX8_inside 3 = .ok (.ldc2_w 264, 3) := by decide +kernel
theorem dX8_inside_6 : decode cX8_inside 6 = .ok (.invokestatic 61, 3) := by decide +kernel
theorem dX8_inside_9 : decode cX8_inside 9 = .ok (.ifCond .ne 5, 3) := by decide +kernel
theorem dX8_inside_12 : decode cX8_inside 12 = .ok (.iconst (-1), 1) := by decide +kernel
theorem dX8_inside_13 : decode cX8_inside 13 = .ok (.ireturn, 1) := by decide +kernel
theorem dX8_inside_14 : decode cX8_inside 14 = .ok (.aload_n 0, 1) := by decide +kernel
theorem dX8_inside_15 : decode cX8_inside 15 = .ok (.iload_n 1, 1) := by decide +kernel
theorem dX8_inside_16 : decode cX8_inside 16 = .ok (.invokevirtual 266, 3) := by decide +kernel
theorem dX8_inside_19 : decode cX8_inside 19 = .ok (.lstore_n 2, 1) := by decide +kernel
theorem dX8_inside_20 : decode cX8_inside 20 = .ok (.lload_n 2, 1) := by decide +kernel
theorem dX8_inside_21 : decode cX8_inside 21 = .ok (.lconst 0, 1) := by decide +kernel
theorem dX8_inside_22 : decode cX8_inside 22 = .ok (.lcmp, 1) := by decide +kernel
theorem dX8_inside_23 : decode cX8_inside 23 = .ok (.ifCond .ge 6, 3) := by decide +kernel
theorem dX8_inside_26 : decode cX8_inside 26 = .ok (.bipush (-9), 2) := by decide +kernel
theorem dX8_inside_28 : decode cX8_inside 28 = .ok (.ireturn, 1) := by decide +kernel
theorem dX8_inside_29 : decode cX8_inside 29 = .ok (.iconst 0, 1) := by decide +kernel
theorem dX8_inside_30 : decode cX8_inside 30 = .ok (.istore 4, 2) := by decide +kernel
theorem dX8_inside_32 : decode cX8_inside 32 = .ok (.iconst 0, 1) := by decide +kernel
theorem dX8_inside_33 : decode cX8_inside 33 = .ok (.istore 5, 2) := by decide +kernel
theorem dX8_inside_35 : decode cX8_inside 35 = .ok (.iload 5, 2) := by decide +kernel
theorem dX8_inside_37 : decode cX8_inside 37 = .ok (.aload_n 0, 1) := by decide +kernel
theorem dX8_inside_38 : decode cX8_inside 38 = .ok (.getfield 16, 3) := by decide +kernel
theorem dX8_inside_41 : decode cX8_inside 41 = .ok (.if_icmp .ge 75, 3) := by decide +kernel
theorem dX8_inside_44 : decode cX8_inside 44 = .ok (.iconst 0, 1) := by decide +kernel
theorem dX8_inside_45 : decode cX8_inside 45 = .ok (.istore 6, 2) := by decide +kernel
theorem dX8_inside_47 : decode cX8_inside 47 = .ok (.iconst 0, 1) := by decide +kernel
theorem dX8_inside_48 : decode cX8_inside 48 = .ok (.istore 7, 2) := by decide +kernel
theorem dX8_inside_50 : decode cX8_inside 50 = .ok (.iload 7, 2) := by decide +kernel
theorem dX8_inside_52 : decode cX8_inside 52 = .ok (.iload 5, 2) := by decide +kernel
theorem dX8_inside_54 : decode cX8_inside 54 = .ok (.aload_n 0, 1) := by decide +kernel
theorem dX8_inside_55 : decode cX8_inside 55 = .ok (.getfield 7, 3) := by decide +kernel
theorem dX8_inside_58 : decode cX8_inside 58 = .ok (.irem, 1) := by decide +kernel
theorem dX8_inside_59 : decode cX8_inside 59 = .ok (.if_icmp .gt 39, 3) := by decide +kernel
theorem dX8_inside_62 : decode cX8_inside 62 = .ok (.iload 6, 2) := by decide +kernel
theorem dX8_inside_64 : decode cX8_inside 64 = .ok (.lload_n 2, 1) := by decide +kernel
theorem dX8_inside_65 : decode cX8_inside 65 = .ok (.aload_n 0, 1) := by decide +kernel
theorem dX8_inside_66 : decode cX8_inside 66 = .ok (.iload 7, 2) := by decide +kernel
theorem dX8_inside_68 : decode cX8_inside 68 = .ok (.iload 5, 2) := by decide +kernel
theorem dX8_inside_70 : decode cX8_inside 70 = .ok (.aload_n 0, 1) := by decide +kernel
theorem dX8_inside_71 : decode cX8_inside 71 = .ok (.getfield 7, 3) := by decide +kernel
theorem dX8_inside_74 : decode cX8_inside 74 = .ok (.idiv, 1) := by decide +kernel
theorem dX8_inside_75 : decode cX8_inside 75 = .ok (.invokevirtual 76, 3) := by decide +kernel
theorem dX8_inside_78 : decode cX8_inside 78 = .ok (.invokestatic 141, 3) := by decide +kernel
theorem dX8_inside_81 : decode cX8_inside 81 = .ok (.ifCond .eq 7, 3) := by decide +kernel
theorem dX8_inside_84 : decode cX8_inside 84 = .ok (.iconst 1, 1) := by decide +kernel
theorem dX8_inside_85 : decode cX8_inside 85 = .ok (.goto 4, 3) := by decide +kernel
theorem dX8_inside_88 : decode cX8_inside 88 = .ok (.iconst 0, 1) := by decide +kernel
theorem dX8_inside_89 : decode cX8_inside 89 = .ok (.iadd, 1) := by decide +kernel
theorem dX8_inside_90 : decode cX8_inside 90 = .ok (.istore 6, 2) := by decide +kernel
theorem dX8_inside_92 : decode cX8_inside 92 = .ok (.iinc 7 1, 3) := by decide +kernel
theorem dX8_inside_95 : decode cX8_inside 95 = .ok (.goto (-45), 3) := by decide +kernel
theorem dX8_inside_98 : decode cX8_inside 98 = .ok (.iload 4, 2) := by decide +kernel
theorem dX8_inside_100 : decode cX8_inside 100 = .ok (.iload 6, 2) := by decide +kernel
theorem dX8_inside_102 : decode cX8_inside 102 = .ok (.iconst 2, 1) := by decide +kernel
theorem dX8_inside_103 : decode cX8_inside 103 = .ok (.irem, 1) := by decide +kernel
theorem dX8_inside_104 : decode cX8_inside 104 = .ok (.iload 5, 2) := by decide +kernel
theorem dX8_inside_106 : decode cX8_inside 106 = .ok (.ishl, 1) := by decide +kernel
theorem dX8_inside_107 : decode cX8_inside 107 = .ok (.ior, 1) := by decide +kernel
theorem dX8_inside_108 : decode cX8_inside 108 = .ok (.istore 4, 2) := by decide +kernel
theorem dX8_inside_110 : decode cX8_inside 110 = .ok (.iinc 5 1, 3) := by decide +kernel
theorem dX8_inside_113 : decode cX8_inside 113 = .ok (.goto (-78), 3) := by decide +kernel
theorem dX8_inside_116 : decode cX8_inside 116 = .ok (.iload 4, 2) := by decide +kernel
theorem dX8_inside_118 : decode cX8_inside 118 = .ok (.ireturn, 1) := by decide +kernel
theorem dX8_numbersThat_0 : decode cX8_numbersThat 0 = .ok (.iload_n 1, 1) := by decide +kernel
theorem dX8_numbersThat_1 : decode cX8_numbersThat 1 = .ok (.i2l, 1) := by decide +kernel
theorem dX8_numbersThat_2 : decode cX8_numbersThat 2 = .ok (.lconst 0, 1) := by decide +kernel
theorem dX8_numbersThat_3 : decode cX8_numbersThat 3 = .ok (.lconst 1, 1) := by decide +kernel
theorem dX8_numbersThat_4 : decode cX8_numbersThat 4 = .ok (.invokestatic 61, 3) := by decide +kernel
theorem dX8_numbersThat_7 : decode cX8_numbersThat 7 = .ok (.ifCond .ne 5, 3) := by decide +kernel
theorem dX8_numbersThat_10 : decode cX8_numbersThat 10 = .ok (.iconst (-1), 1) := by decide +kernel
theorem dX8_numbersThat_11 : decode cX8_numbersThat 11 = .ok (.ireturn, 1) := by decide +kernel
theorem dX8_numbersThat_12 : decode cX8_numbersThat 12 = .ok (.aload_n 0, 1) := by decide +kernel
theorem dX8_numbersThat_13 : decode cX8_numbersThat 13 = .ok (.iconst 2, 1) := by decide +kernel
theorem dX8_numbersThat_14 : decode cX8_numbersThat 14 = .ok (.bipush 16, 2) := by decide +kernel
theorem dX8_numbersThat_16 : decode cX8_numbersThat 16 = .ok (.invokevirtual 259, 3) := by decide +kernel
theorem dX8_numbersThat_19 : decode cX8_numbersThat 19 = .ok (.istore_n 2, 1) := by decide +kernel
theorem dX8_numbersThat_20 : decode cX8_numbersThat 20 = .ok (.iconst 0, 1) := by decide +kernel
theorem dX8_numbersThat_21 : decode cX8_numbersThat 21 = .ok (.istore_n 3, 1) := by decide +kernel
theorem dX8_numbersThat_22 : decode cX8_numbersThat 22 = .ok (.iconst 0, 1) := by decide +kernel
theorem dX8_numbersThat_23 : decode cX8_numbersThat 23 = .ok (.istore 4, 2) := by decide +kernel
theorem dX8_numbersThat_25 : decode cX8_numbersThat 25 = .ok (.iload 4, 2) := by decide +kernel
theorem dX8_numbersThat_27 : decode cX8_numbersThat 27 = .ok (.aload_n 0, 1) := by decide +kernel
theorem dX8_numbersThat_28 : decode cX8_numbersThat 28 = .ok (.getfield 16, 3) := by decide +kernel
theorem dX8_numbersThat_31 : decode cX8_numbersThat 31 = .ok (.if_icmp .ge 78, 3) := by decide +kernel
theorem dX8_numbersThat_34 : decode cX8_numbersThat 34 = .ok (.iload_n 2, 1) := by decide +kernel
theorem dX8_numbersThat_35 : decode cX8_numbersThat 35 = .ok (.iconst 1, 1) := by decide +kernel
theorem dX8_numbersThat_36 : decode cX8_numbersThat 36 = .ok (.iload_n 1, 1) := by decide +kernel
theorem dX8_numbersThat_37 : decode cX8_numbersThat 37 = .ok (.isub, 1) := by decide +kernel
theorem dX8_numbersThat_38 : decode cX8_numbersThat 38 = .ok (.if_icmp .ne 71, 3) := by decide +kernel
theorem dX8_numbersThat_41 : decode cX8_numbersThat 41 = .ok (.aload_n 0, 1) := by decide +kernel
theorem dX8_numbersThat_42 : decode cX8_numbersThat 42 = .ok (.iload 4, 2) := by decide +kernel
theorem dX8_numbersThat_44 : decode cX8_numbersThat 44 = .ok (.invokevirtual 134, 3) := by decide +kernel
theorem dX8_numbersThat_47 : decode cX8_numbersThat 47 = .ok (.iconst 5, 1) := by decide +kernel
theorem dX8_numbersThat_48 : decode cX8_numbersThat 48 = .ok (.if_icmp .ge 36, 3) := by decide +kernel
theorem dX8_numbersThat_51 : decode cX8_numbersThat 51 = .ok (.iload_n 1, 1) := by decide +kernel
theorem dX8_numbersThat_52 : decode cX8_numbersThat 52 = .ok (.ifCond .ne 17, 3) := by decide +kernel
theorem dX8_numbersThat_55 : decode cX8_numbersThat 55 = .ok (.aload_n 0, 1) := by decide +kernel
theorem dX8_numbersThat_56 : decode cX8_numbersThat 56 = .ok (.iconst 2, 1) := by decide +kernel
theorem dX8_numbersThat_57 : decode cX8_numbersThat 57 = .ok (.iload 4, 2) := by decide +kernel
theorem dX8_numbersThat_59 : decode cX8_numbersThat 59 = .ok (.invokevirtual 259, 3) := by decide +kernel
theorem dX8_numbersThat_62 : decode cX8_numbersThat 62 = .ok (.iconst 1, 1) := by decide +kernel
theorem dX8_numbersThat_63 : decode cX8_numbersThat 63 = .ok (.if_icmp .ne 21, 3) := by decide +kernel
theorem dX8_numbersThat_66 : decode cX8_numbersThat 66 = .ok (.goto 14, 3) := by decide +kernel
theorem dX8_numbersThat_69 : decode cX8_numbersThat 69 = .ok (.aload_n 0, 1) := by decide +kernel
theorem dX8_numbersThat_70 : decode cX8_numbersThat 70 = .ok (.iconst 1, 1) := by decide +kernel
theorem dX8_numbersThat_71 : decode cX8_numbersThat 71 = .ok (.iload 4, 2) := by decide +kernel
theorem dX8_numbersThat_73 : decode cX8_numbersThat 73 = .ok (.invokevirtual 259, 3) := by decide +kernel
theorem dX8_numbersThat_76 : decode cX8_numbersThat 76 = .ok (.iconst 1, 1) := by decide +kernel
theorem dX8_numbersThat_77 : decode cX8_numbersThat 77 = .ok (.if_icmp .ne 7, 3) := by decide +kernel
theorem dX8_numbersThat_80 : decode cX8_numbersThat 80 = .ok (.iconst 1, 1) := by decide +kernel
theorem dX8_numbersThat_81 : decode cX8_numbersThat 81 = .ok (.goto 4, 3) := by decide +kernel
theorem dX8_numbersThat_84 : decode cX8_numbersThat 84 = .ok (.iconst 0, 1) := by decide +kernel
theorem dX8_numbersThat_85 : decode cX8_numbersThat 85 = .ok (.istore 5, 2) := by decide +kernel
theorem dX8_numbersThat_87 : decode cX8_numbersThat 87 = .ok (.iload_n 3, 1) := by decide +kernel
theorem dX8_numbersThat_88 : decode cX8_numbersThat 88 = .ok (.iload 5, 2) := by decide +kernel
theorem dX8_numbersThat_90 : decode cX8_numbersThat 90 = .ok (.ifCond .eq 10, 3) := by decide +kernel
theorem dX8_numbersThat_93 : decode cX8_numbersThat 93 = .ok (.iconst 1, 1) := by decide +kernel
theorem dX8_numbersThat_94 : decode cX8_numbersThat 94 = .ok (.iload 4, 2) := by decide +kernel
theorem dX8_numbersThat_96 : decode cX8_numbersThat 96 = .ok (.ishl, 1) := by decide +kernel
theorem dX8_numbersThat_97 : decode cX8_numbersThat 97 = .ok (.goto 4, 3) := by decide +kernel
theorem dX8_numbersThat_100 : decode cX8_numbersThat 100 = .ok (.iconst 0, 1) := by decide +kernel
theorem dX8_numbersThat_101 : decode cX8_numbersThat 101 = .ok (.ior, 1) := by decide +kernel
theorem dX8_numbersThat_102 : decode cX8_numbersThat 102 = .ok (.istore_n 3, 1) := by decide +kernel
theorem dX8_numbersThat_103 : decode cX8_numbersThat 103 = .ok (.iinc 4 1, 3) := by decide +kernel
theorem dX8_numbersThat_106 : decode cX8_numbersThat 106 = .ok (.goto (-81), 3) := by decide +kernel
theorem dX8_numbersThat_109 : decode cX8_numbersThat 109 = .ok (.iload_n 3, 1) := by decide +kernel
theorem dX8_numbersThat_110 : decode cX8_numbersThat 110 = .ok (.ireturn, 1) := by decide +kernel
theorem dX8_tryNext_0 : decode cX8_tryNext 0 = .ok (.aload_n 0, 1) := by decide +kernel
theorem dX8_tryNext_1 : decode cX8_tryNext 1 = .ok (.invokevirtual 251, 3) := by decide +kernel
theorem dX8_tryNext_4 : decode cX8_tryNext 4 = .ok (.iconst 0, 1) := by decide +kernel
theorem dX8_tryNext_5 : decode cX8_tryNext 5 = .ok (.istore_n 1, 1) := by decide +kernel
theorem dX8_tryNext_6 : decode cX8_tryNext 6 = .ok (.iconst 0, 1) := by decide +kernel
theorem dX8_tryNext_7 : decode cX8_tryNext 7 = .ok (.istore_n 2, 1) := by decide +kernel
theorem dX8_tryNext_8 : decode cX8_tryNext 8 = .ok (.iload_n 2, 1) := by decide +kernel
theorem dX8_tryNext_9 : decode cX8_tryNext 9 = .ok (.aload_n 0, 1) := by decide +kernel
theorem dX8_tryNext_10 : decode cX8_tryNext 10 = .ok (.getfield 19, 3) := by decide +kernel
theorem dX8_tryNext_13 : decode cX8_tryNext 13 = .ok (.if_icmp .ge 16, 3) := by decide +kernel
theorem dX8_tryNext_16 : decode cX8_tryNext 16 = .ok (.aload_n 0, 1) := by decide +kernel
theorem dX8_tryNext_17 : decode cX8_tryNext 17 = .ok (.getfield 49, 3) := by decide +kernel
theorem dX8_tryNext_20 : decode cX8_tryNext 20 = .ok (.iload_n 2, 1) := by decide +kernel
theorem dX8_tryNext_21 : decode cX8_tryNext 21 = .ok (.iconst 0, 1) := by decide +kernel
theorem dX8_tryNext_22 : decode cX8_tryNext 22 = .ok (.iastore, 1) := by decide +kernel
theorem dX8_tryNext_23 : decode cX8_tryNext 23 = .ok (.iinc 2 1, 3) := by decide +kernel
theorem dX8_tryNext_26 : decode cX8_tryNext 26 = .ok (.goto (-18), 3) := by decide +kernel
theorem dX8_tryNext_29 : decode cX8_tryNext 29 = .ok (.iconst 0, 1) := by decide +kernel
theorem dX8_tryNext_30 : decode cX8_tryNext 30 = .ok (.istore_n 2, 1) := by decide +kernel
theorem dX8_tryNext_31 : decode cX8_tryNext 31 = .ok (.iload_n 2, 1) := by decide +kernel
theorem dX8_tryNext_32 : decode cX8_tryNext 32 = .ok (.aload_n 0, 1) := by decide +kernel
theorem dX8_tryNext_33 : decode cX8_tryNext 33 = .ok (.getfield 241, 3) := by decide +kernel
theorem dX8_tryNext_36 : decode cX8_tryNext 36 = .ok (.if_icmp .ge 70, 3) := by decide +kernel
theorem dX8_tryNext_39 : decode cX8_tryNext 39 = .ok (.aload_n 0, 1) := by decide +kernel
theorem dX8_tryNext_40 : decode cX8_tryNext 40 = .ok (.aload_n 0, 1) := by decide +kernel
theorem dX8_tryNext_41 : decode cX8_tryNext 41 = .ok (.getfield 46, 3) := by decide +kernel
theorem dX8_tryNext_44 : decode cX8_tryNext 44 = .ok (.iload_n 2, 1) := by decide +kernel
theorem dX8_tryNext_45 : decode cX8_tryNext 45 = .ok (.laload, 1) := by decide +kernel
theorem dX8_tryNext_46 : decode cX8_tryNext 46 = .ok (.bipush 16, 2) := by decide +kernel
theorem dX8_tryNext_48 : decode cX8_tryNext 48 = .ok (.invokevirtual 254, 3) := by decide +kernel
theorem dX8_tryNext_51 : decode cX8_tryNext 51 = .ok (.ifCond .eq 49, 3) := by decide +kernel
theorem dX8_tryNext_54 : decode cX8_tryNext 54 = .ok (.iinc 1 1, 3) := by decide +kernel
theorem dX8_tryNext_57 : decode cX8_tryNext 57 = .ok (.iconst 0, 1) := by decide +kernel
theorem dX8_tryNext_58 : decode cX8_tryNext 58 = .ok (.istore_n 3, 1) := by decide +kernel
theorem dX8_tryNext_59 : decode cX8_tryNext 59 = .ok (.iload_n 3, 1) := by decide +kernel
theorem dX8_tryNext_60 : decode cX8_tryNext 60 = .ok (.aload_n 0, 1) := by decide +kernel
theorem dX8_tryNext_61 : decode cX8_tryNext 61 = .ok (.getfield 19, 3) := by decide +kernel
theorem dX8_tryNext_64 : decode cX8_tryNext 64 = .ok (.if_icmp .ge 36, 3) := by decide +kernel
theorem dX8_tryNext_67 : decode cX8_tryNext 67 = .ok (.aload_n 0, 1) := by decide +kernel
theorem dX8_tryNext_68 : decode cX8_tryNext 68 = .ok (.getfield 49, 3) := by decide +kernel
theorem dX8_tryNext_71 : decode cX8_tryNext 71 = .ok (.iload_n 3, 1) := by decide +kernel
theorem dX8_tryNext_72 : decode cX8_tryNext 72 = .ok (.dup2, 1) := by decide +kernel
theorem dX8_tryNext_73 : decode cX8_tryNext 73 = .ok (.iaload, 1) := by decide +kernel
theorem dX8_tryNext_74 : decode cX8_tryNext 74 = .ok (.aload_n 0, 1) := by decide +kernel
theorem dX8_tryNext_75 : decode cX8_tryNext 75 = .ok (.getfield 46, 3) := by decide +kernel
theorem dX8_tryNext_78 : decode cX8_tryNext 78 = .ok (.iload_n 2, 1) := by decide +kernel
theorem dX8_tryNext_79 : decode cX8_tryNext 79 = .ok (.laload, 1) := by decide +kernel
theorem dX8_tryNext_80 : decode cX8_tryNext 80 = .ok (.iload_n 3, 1) := by decide +kernel
theorem dX8_tryNext_81 : decode cX8_tryNext 81 = .ok (.invokestatic 141, 3) := by decide +kernel
theorem dX8_tryNext_84 : decode cX8_tryNext 84 = .ok (.ifCond .eq 7, 3) := by decide +kernel
theorem dX8_tryNext_87 : decode cX8_tryNext 87 = .ok (.iconst 1, 1) := by decide +kernel
theorem dX8_tryNext_88 : decode cX8_tryNext 88 = .ok (.goto 4, 3) := by decide +kernel
theorem dX8_tryNext_91 : decode cX8_tryNext 91 = .ok (.iconst 0, 1) := by decide +kernel
theorem dX8_tryNext_92 : decode cX8_tryNext 92 = .ok (.iadd, 1) := by decide +kernel
theorem dX8_tryNext_93 : decode cX8_tryNext 93 = .ok (.iastore, 1) := by decide +kernel
theorem dX8_tryNext_94 : decode cX8_tryNext 94 = .ok (.iinc 3 1, 3) := by decide +kernel
theorem dX8_tryNext_97 : decode cX8_tryNext 97 = .ok (.goto (-38), 3) := by decide +kernel
theorem dX8_tryNext_100 : decode cX8_tryNext 100 = .ok (.iinc 2 1, 3) := by decide +kernel
theorem dX8_tryNext_103 : decode cX8_tryNext 103 = .ok (.goto (-72), 3) := by decide +kernel
theorem dX8_tryNext_106 : decode cX8_tryNext 106 = .ok (.bipush (-9), 2) := by decide +kernel
theorem dX8_tryNext_108 : decode cX8_tryNext 108 = .ok (.istore_n 2, 1) := by decide +kernel
theorem dX8_tryNext_109 : decode cX8_tryNext 109 = .ok (.iconst 0, 1) := by decide +kernel
theorem dX8_tryNext_110 : decode cX8_tryNext 110 = .ok (.istore_n 3, 1) := by decide +kernel
theorem dX8_tryNext_111 : decode cX8_tryNext 111 = .ok (.iconst 0, 1) := by decide +kernel
theorem dX8_tryNext_112 : decode cX8_tryNext 112 = .ok (.istore 4, 2) := by decide +kernel
theorem dX8_tryNext_114 : decode cX8_tryNext 114 = .ok (.iload 4, 2) := by decide +kernel
theorem dX8_tryNext_116 : decode cX8_tryNext 116 = .ok (.aload_n 0, 1) := by decide +kernel
theorem dX8_tryNext_117 : decode cX8_tryNext 117 = .ok (.getfield 19, 3) := by decide +kernel
theorem dX8_tryNext_120 : decode cX8_tryNext 120 = .ok (.if_icmp .ge 73, 3) := by decide +kernel
theorem dX8_tryNext_123 : decode cX8_tryNext 123 = .ok (.aload_n 0, 1) := by decide +kernel
theorem dX8_tryNext_124 : decode cX8_tryNext 124 = .ok (.getfield 49, 3) := by decide +kernel
theorem dX8_tryNext_127 : decode cX8_tryNext 127 = .ok (.iload 4, 2) := by decide +kernel
theorem dX8_tryNext_129 : decode cX8_tryNext 129 = .ok (.iaload, 1) := by decide +kernel
theorem dX8_tryNext_130 : decode cX8_tryNext 130 = .ok (.iload_n 1, 1) := by decide +kernel
theorem dX8_tryNext_131 : decode cX8_tryNext 131 = .ok (.aload_n 0, 1) := by decide +kernel
theorem dX8_tryNext_132 : decode cX8_tryNext 132 = .ok (.getfield 49, 3) := by decide +kernel
theorem dX8_tryNext_135 : decode cX8_tryNext 135 = .ok (.iload 4, 2) := by decide +kernel
theorem dX8_tryNext_137 : decode cX8_tryNext 137 = .ok (.iaload, 1) := by decide +kernel
theorem dX8_tryNext_138 : decode cX8_tryNext 138 = .ok (.isub, 1) := by decide +kernel
theorem dX8_tryNext_139 : decode cX8_tryNext 139 = .ok (.if_icmp .ge 13, 3) := by decide +kernel
theorem dX8_tryNext_142 : decode cX8_tryNext 142 = .ok (.aload_n 0, 1) := by decide +kernel
theorem dX8_tryNext_143 : decode cX8_tryNext 143 = .ok (.getfield 49, 3) := by decide +kernel
theorem dX8_tryNext_146 : decode cX8_tryNext 146 = .ok (.iload 4, 2) := by decide +kernel
theorem dX8_tryNext_148 : decode cX8_tryNext 148 = .ok (.iaload, 1) := by decide +kernel
theorem dX8_tryNext_149 : decode cX8_tryNext 149 = .ok (.goto 12, 3) := by decide +kernel
theorem dX8_tryNext_152 : decode cX8_tryNext 152 = .ok (.iload_n 1, 1) := by decide +kernel
theorem dX8_tryNext_153 : decode cX8_tryNext 153 = .ok (.aload_n 0, 1) := by decide +kernel
theorem dX8_tryNext_154 : decode cX8_tryNext 154 = .ok (.getfield 49, 3) := by decide +kernel
theorem dX8_tryNext_157 : decode cX8_tryNext 157 = .ok (.iload 4, 2) := by decide +kernel
theorem dX8_tryNext_159 : decode cX8_tryNext 159 = .ok (.iaload, 1) := by decide +kernel
theorem dX8_tryNext_160 : decode cX8_tryNext 160 = .ok (.isub, 1) := by decide +kernel
theorem dX8_tryNext_161 : decode cX8_tryNext 161 = .ok (.istore 5, 2) := by decide +kernel
theorem dX8_tryNext_163 : decode cX8_tryNext 163 = .ok (.aload_n 0, 1) := by decide +kernel
theorem dX8_tryNext_164 : decode cX8_tryNext 164 = .ok (.invokevirtual 191, 3) := by decide +kernel
theorem dX8_tryNext_167 : decode cX8_tryNext 167 = .ok (.iload 4, 2) := by decide +kernel
theorem dX8_tryNext_169 : decode cX8_tryNext 169 = .ok (.invokestatic 141, 3) := by decide +kernel
theorem dX8_tryNext_172 : decode cX8_tryNext 172 = .ok (.ifCond .eq 15, 3) := by decide +kernel
theorem dX8_tryNext_175 : decode cX8_tryNext 175 = .ok (.iload 5, 2) := by decide +kernel
theorem dX8_tryNext_177 : decode cX8_tryNext 177 = .ok (.iload_n 3, 1) := by decide +kernel
theorem dX8_tryNext_178 : decode cX8_tryNext 178 = .ok (.if_icmp .le 9, 3) := by decide +kernel
theorem dX8_tryNext_181 : decode cX8_tryNext 181 = .ok (.iload 4, 2) := by decide +kernel
theorem dX8_tryNext_183 : decode cX8_tryNext 183 = .ok (.istore_n 2, 1) := by decide +kernel
theorem dX8_tryNext_184 : decode cX8_tryNext 184 = .ok (.iload 5, 2) := by decide +kernel
theorem dX8_tryNext_186 : decode cX8_tryNext 186 = .ok (.istore_n 3, 1) := by decide +kernel
theorem dX8_tryNext_187 : decode cX8_tryNext 187 = .ok (.iinc 4 1, 3) := by decide +kernel
theorem dX8_tryNext_190 : decode cX8_tryNext 190 = .ok (.goto (-76), 3) := by decide +kernel
theorem dX8_tryNext_193 : decode cX8_tryNext 193 = .ok (.iload_n 2, 1) := by decide +kernel
theorem dX8_tryNext_194 : decode cX8_tryNext 194 = .ok (.ireturn, 1) := by decide +kernel
theorem dX8_keep_0 : decode cX8_keep 0 = .ok (.iload_n 1, 1) := by decide +kernel
theorem dX8_keep_1 : decode cX8_keep 1 = .ok (.i2l, 1) := by decide +kernel
theorem dX8_keep_2 : decode cX8_keep 2 = .ok (.lconst 0, 1) := by decide +kernel
theorem dX8_keep_3 : decode cX8_keep 3 = .ok (.lconst 1, 1) := by decide +kernel
theorem dX8_keep_4 : decode cX8_keep 4 = .ok (.invokestatic 61, 3) := by decide +kernel
theorem dX8_keep_7 : decode cX8_keep 7 = .ok (.ifCond .ne 5, 3) := by decide +kernel
theorem dX8_keep_10 : decode cX8_keep 10 = .ok (.iconst (-1), 1) := by decide +kernel
theorem dX8_keep_11 : decode cX8_keep 11 = .ok (.ireturn, 1) := by decide +kernel
theorem dX8_keep_12 : decode cX8_keep 12 = .ok (.aload_n 0, 1) := by decide +kernel
theorem dX8_keep_13 : decode cX8_keep 13 = .ok (.getfield 39, 3) := by decide +kernel
theorem dX8_keep_16 : decode cX8_keep 16 = .ok (.iconst 3, 1) := by decide +kernel
theorem dX8_keep_17 : decode cX8_keep 17 = .ok (.iload_n 1, 1) := by decide +kernel
theorem dX8_keep_18 : decode cX8_keep 18 = .ok (.imul, 1) := by decide +kernel
theorem dX8_keep_19 : decode cX8_keep 19 = .ok (.aload_n 0, 1) := by decide +kernel
theorem dX8_keep_20 : decode cX8_keep 20 = .ok (.getfield 52, 3) := by decide +kernel
theorem dX8_keep_23 : decode cX8_keep 23 = .ok (.lastore, 1) := by decide +kernel
theorem dX8_keep_24 : decode cX8_keep 24 = .ok (.aload_n 0, 1) := by decide +kernel
theorem dX8_keep_25 : decode cX8_keep 25 = .ok (.getfield 39, 3) := by decide +kernel
theorem dX8_keep_28 : decode cX8_keep 28 = .ok (.iconst 3, 1) := by decide +kernel
theorem dX8_keep_29 : decode cX8_keep 29 = .ok (.iload_n 1, 1) := by decide +kernel
theorem dX8_keep_30 : decode cX8_keep 30 = .ok (.imul, 1) := by decide +kernel
theorem dX8_keep_31 : decode cX8_keep 31 = .ok (.iconst 1, 1) := by decide +kernel
theorem dX8_keep_32 : decode cX8_keep 32 = .ok (.iadd, 1) := by decide +kernel
theorem dX8_keep_33 : decode cX8_keep 33 = .ok (.aload_n 0, 1) := by decide +kernel
theorem dX8_keep_34 : decode cX8_keep 34 = .ok (.getfield 83, 3) := by decide +kernel
theorem dX8_keep_37 : decode cX8_keep 37 = .ok (.lastore, 1) := by decide +kernel
theorem dX8_keep_38 : decode cX8_keep 38 = .ok (.aload_n 0, 1) := by decide +kernel
theorem dX8_keep_39 : decode cX8_keep 39 = .ok (.getfield 39, 3) := by decide +kernel
theorem dX8_keep_42 : decode cX8_keep 42 = .ok (.iconst 3, 1) := by decide +kernel
theorem dX8_keep_43 : decode cX8_keep 43 = .ok (.iload_n 1, 1) := by decide +kernel
theorem dX8_keep_44 : decode cX8_keep 44 = .ok (.imul, 1) := by decide +kernel
theorem dX8_keep_45 : decode cX8_keep 45 = .ok (.iconst 2, 1) := by decide +kernel
theorem dX8_keep_46 : decode cX8_keep 46 = .ok (.iadd, 1) := by decide +kernel
theorem dX8_keep_47 : decode cX8_keep 47 = .ok (.aload_n 0, 1) := by decide +kernel
theorem dX8_keep_48 : decode cX8_keep 48 = .ok (.getfield 88, 3) := by decide +kernel
theorem dX8_keep_51 : decode cX8_keep 51 = .ok (.lastore, 1) := by decide +kernel
theorem dX8_keep_52 : decode cX8_keep 52 = .ok (.aload_n 0, 1) := by decide +kernel
theorem dX8_keep_53 : decode cX8_keep 53 = .ok (.getfield 42, 3) := by decide +kernel
theorem dX8_keep_56 : decode cX8_keep 56 = .ok (.iload_n 1, 1) := by decide +kernel
theorem dX8_keep_57 : decode cX8_keep 57 = .ok (.iconst 1, 1) := by decide +kernel
theorem dX8_keep_58 : decode cX8_keep 58 = .ok (.bastore, 1) := by decide +kernel
theorem dX8_keep_59 : decode cX8_keep 59 = .ok (.aload_n 0, 1) := by decide +kernel
theorem dX8_keep_60 : decode cX8_keep 60 = .ok (.invokevirtual 191, 3) := by decide +kernel
theorem dX8_keep_63 : decode cX8_keep 63 = .ok (.invokestatic 187, 3) := by decide +kernel
theorem dX8_keep_66 : decode cX8_keep 66 = .ok (.ireturn, 1) := by decide +kernel
theorem dX8_back_0 : decode cX8_back 0 = .ok (.iload_n 1, 1) := by decide +kernel
theorem dX8_back_1 : decode cX8_back 1 = .ok (.i2l, 1) := by decide +kernel
theorem dX8_back_2 : decode cX8_back 2 = .ok (.lconst 0, 1) := by decide +kernel
theorem dX8_back_3 : decode cX8_back 3 = .ok (.lconst 1, 1) := by decide +kernel
theorem dX8_back_4 : decode cX8_back 4 = .ok (.invokestatic 61, 3) := by decide +kernel
theorem dX8_back_7 : decode cX8_back 7 = .ok (.ifCond .ne 5, 3) := by decide +kernel
theorem dX8_back_10 : decode cX8_back 10 = .ok (.iconst (-1), 1) := by decide +kernel
theorem dX8_back_11 : decode cX8_back 11 = .ok (.ireturn, 1) := by decide +kernel
theorem dX8_back_12 : decode cX8_back 12 = .ok (.aload_n 0, 1) := by decide +kernel
theorem dX8_back_13 : decode cX8_back 13 = .ok (.getfield 42, 3) := by decide +kernel
theorem dX8_back_16 : decode cX8_back 16 = .ok (.iload_n 1, 1) := by decide +kernel
theorem dX8_back_17 : decode cX8_back 17 = .ok (.baload, 1) := by decide +kernel
theorem dX8_back_18 : decode cX8_back 18 = .ok (.ifCond .ne 6, 3) := by decide +kernel
theorem dX8_back_21 : decode cX8_back 21 = .ok (.bipush (-2), 2) := by decide +kernel
theorem dX8_back_23 : decode cX8_back 23 = .ok (.ireturn, 1) := by decide +kernel
theorem dX8_back_24 : decode cX8_back 24 = .ok (.aload_n 0, 1) := by decide +kernel
theorem dX8_back_25 : decode cX8_back 25 = .ok (.aload_n 0, 1) := by decide +kernel
theorem dX8_back_26 : decode cX8_back 26 = .ok (.getfield 39, 3) := by decide +kernel
theorem dX8_back_29 : decode cX8_back 29 = .ok (.iconst 3, 1) := by decide +kernel
theorem dX8_back_30 : decode cX8_back 30 = .ok (.iload_n 1, 1) := by decide +kernel
theorem dX8_back_31 : decode cX8_back 31 = .ok (.imul, 1) := by decide +kernel
theorem dX8_back_32 : decode cX8_back 32 = .ok (.laload, 1) := by decide +kernel
theorem dX8_back_33 : decode cX8_back 33 = .ok (.putfield 52, 3) := by decide +kernel
theorem dX8_back_36 : decode cX8_back 36 = .ok (.aload_n 0, 1) := by decide +kernel
theorem dX8_back_37 : decode cX8_back 37 = .ok (.aload_n 0, 1) := by decide +kernel
theorem dX8_back_38 : decode cX8_back 38 = .ok (.getfield 39, 3) := by decide +kernel
theorem dX8_back_41 : decode cX8_back 41 = .ok (.iconst 3, 1) := by decide +kernel
theorem dX8_back_42 : decode cX8_back 42 = .ok (.iload_n 1, 1) := by decide +kernel
theorem dX8_back_43 : decode cX8_back 43 = .ok (.imul, 1) := by decide +kernel
theorem dX8_back_44 : decode cX8_back 44 = .ok (.iconst 1, 1) := by decide +kernel
theorem dX8_back_45 : decode cX8_back 45 = .ok (.iadd, 1) := by decide +kernel
theorem dX8_back_46 : decode cX8_back 46 = .ok (.laload, 1) := by decide +kernel
theorem dX8_back_47 : decode cX8_back 47 = .ok (.putfield 83, 3) := by decide +kernel
theorem dX8_back_50 : decode cX8_back 50 = .ok (.aload_n 0, 1) := by decide +kernel
theorem dX8_back_51 : decode cX8_back 51 = .ok (.aload_n 0, 1) := by decide +kernel
theorem dX8_back_52 : decode cX8_back 52 = .ok (.getfield 39, 3) := by decide +kernel
theorem dX8_back_55 : decode cX8_back 55 = .ok (.iconst 3, 1) := by decide +kernel
theorem dX8_back_56 : decode cX8_back 56 = .ok (.iload_n 1, 1) := by decide +kernel
theorem dX8_back_57 : decode cX8_back 57 = .ok (.imul, 1) := by decide +kernel
theorem dX8_back_58 : decode cX8_back 58 = .ok (.iconst 2, 1) := by decide +kernel
theorem dX8_back_59 : decode cX8_back 59 = .ok (.iadd, 1) := by decide +kernel
theorem dX8_back_60 : decode cX8_back 60 = .ok (.laload, 1) := by decide +kernel
theorem dX8_back_61 : decode cX8_back 61 = .ok (.putfield 88, 3) := by decide +kernel
theorem dX8_back_64 : decode cX8_back 64 = .ok (.aload_n 0, 1) := by decide +kernel
theorem dX8_back_65 : decode cX8_back 65 = .ok (.iconst 0, 1) := by decide +kernel
theorem dX8_back_66 : decode cX8_back 66 = .ok (.putfield 127, 3) := by decide +kernel
theorem dX8_back_69 : decode cX8_back 69 = .ok (.aload_n 0, 1) := by decide +kernel
theorem dX8_back_70 : decode cX8_back 70 = .ok (.invokevirtual 191, 3) := by decide +kernel
theorem dX8_back_73 : decode cX8_back 73 = .ok (.invokestatic 187, 3) := by decide +kernel
theorem dX8_back_76 : decode cX8_back 76 = .ok (.ireturn, 1) := by decide +kernel
theorem dX8_numbered_0 : decode cX8_numbered 0 = .ok (.iconst 0, 1) := by decide +kernel
theorem dX8_numbered_1 : decode cX8_numbered 1 = .ok (.istore_n 1, 1) := by decide +kernel
theorem dX8_numbered_2 : decode cX8_numbered 2 = .ok (.iconst 0, 1) := by decide +kernel
theorem dX8_numbered_3 : decode cX8_numbered 3 = .ok (.istore_n 2, 1) := by decide +kernel
theorem dX8_numbered_4 : decode cX8_numbered 4 = .ok (.iload_n 2, 1) := by decide +kernel
theorem dX8_numbered_5 : decode cX8_numbered 5 = .ok (.aload_n 0, 1) := by decide +kernel
theorem dX8_numbered_6 : decode cX8_numbered 6 = .ok (.getfield 16, 3) := by decide +kernel
theorem dX8_numbered_9 : decode cX8_numbered 9 = .ok (.if_icmp .ge 26, 3) := by decide +kernel
theorem dX8_numbered_12 : decode cX8_numbered 12 = .ok (.iload_n 1, 1) := by decide +kernel
theorem dX8_numbered_13 : decode cX8_numbered 13 = .ok (.aload_n 0, 1) := by decide +kernel
theorem dX8_numbered_14 : decode cX8_numbered 14 = .ok (.iload_n 2, 1) := by decide +kernel
theorem dX8_numbered_15 : decode cX8_numbered 15 = .ok (.invokevirtual 134, 3) := by decide +kernel
theorem dX8_numbered_18 : decode cX8_numbered 18 = .ok (.iconst 5, 1) := by decide +kernel
theorem dX8_numbered_19 : decode cX8_numbered 19 = .ok (.if_icmp .ge 7, 3) := by decide +kernel
theorem dX8_numbered_22 : decode cX8_numbered 22 = .ok (.iconst 1, 1) := by decide +kernel
theorem dX8_numbered_23 : decode cX8_numbered 23 = .ok (.goto 4, 3) := by decide +kernel
theorem dX8_numbered_26 : decode cX8_numbered 26 = .ok (.iconst 0, 1) := by decide +kernel
theorem dX8_numbered_27 : decode cX8_numbered 27 = .ok (.iadd, 1) := by decide +kernel
theorem dX8_numbered_28 : decode cX8_numbered 28 = .ok (.istore_n 1, 1) := by decide +kernel
theorem dX8_numbered_29 : decode cX8_numbered 29 = .ok (.iinc 2 1, 3) := by decide +kernel
theorem dX8_numbered_32 : decode cX8_numbered 32 = .ok (.goto (-28), 3) := by decide +kernel
theorem dX8_numbered_35 : decode cX8_numbered 35 = .ok (.iload_n 1, 1) := by decide +kernel
theorem dX8_numbered_36 : decode cX8_numbered 36 = .ok (.ireturn, 1) := by decide +kernel
theorem dX8_count_0 : decode cX8_count 0 = .ok (.iload_n 1, 1) := by decide +kernel
theorem dX8_count_1 : decode cX8_count 1 = .ok (.tableswitch 93 0 7 #[47, 52, 57, 62, 70, 78, 83, 88], 47) := by decide +kernel
theorem dX8_count_48 : decode cX8_count 48 = .ok (.aload_n 0, 1) := by decide +kernel
theorem dX8_count_49 : decode cX8_count 49 = .ok (.getfield 7, 3) := by decide +kernel
theorem dX8_count_52 : decode cX8_count 52 = .ok (.ireturn, 1) := by decide +kernel
theorem dX8_count_53 : decode cX8_count 53 = .ok (.aload_n 0, 1) := by decide +kernel
theorem dX8_count_54 : decode cX8_count 54 = .ok (.getfield 13, 3) := by decide +kernel
theorem dX8_count_57 : decode cX8_count 57 = .ok (.ireturn, 1) := by decide +kernel
theorem dX8_count_58 : decode cX8_count 58 = .ok (.aload_n 0, 1) := by decide +kernel
theorem dX8_count_59 : decode cX8_count 59 = .ok (.getfield 19, 3) := by decide +kernel
theorem dX8_count_62 : decode cX8_count 62 = .ok (.ireturn, 1) := by decide +kernel
theorem dX8_count_63 : decode cX8_count 63 = .ok (.aload_n 0, 1) := by decide +kernel
theorem dX8_count_64 : decode cX8_count 64 = .ok (.getfield 83, 3) := by decide +kernel
theorem dX8_count_67 : decode cX8_count 67 = .ok (.invokestatic 187, 3) := by decide +kernel
theorem dX8_count_70 : decode cX8_count 70 = .ok (.ireturn, 1) := by decide +kernel
theorem dX8_count_71 : decode cX8_count 71 = .ok (.aload_n 0, 1) := by decide +kernel
theorem dX8_count_72 : decode cX8_count 72 = .ok (.getfield 88, 3) := by decide +kernel
theorem dX8_count_75 : decode cX8_count 75 = .ok (.invokestatic 187, 3) := by decide +kernel
theorem dX8_count_78 : decode cX8_count 78 = .ok (.ireturn, 1) := by decide +kernel
theorem dX8_count_79 : decode cX8_count 79 = .ok (.aload_n 0, 1) := by decide +kernel
theorem dX8_count_80 : decode cX8_count 80 = .ok (.invokevirtual 269, 3) := by decide +kernel
theorem dX8_count_83 : decode cX8_count 83 = .ok (.ireturn, 1) := by decide +kernel
theorem dX8_count_84 : decode cX8_count 84 = .ok (.aload_n 0, 1) := by decide +kernel
theorem dX8_count_85 : decode cX8_count 85 = .ok (.getfield 96, 3) := by decide +kernel
theorem dX8_count_88 : decode cX8_count 88 = .ok (.ireturn, 1) := by decide +kernel
theorem dX8_count_89 : decode cX8_count 89 = .ok (.aload_n 0, 1) := by decide +kernel
theorem dX8_count_90 : decode cX8_count 90 = .ok (.getfield 127, 3) := by decide +kernel
theorem dX8_count_93 : decode cX8_count 93 = .ok (.ireturn, 1) := by decide +kernel
theorem dX8_count_94 : decode cX8_count 94 = .ok (.iconst (-1), 1) := by decide +kernel
theorem dX8_count_95 : decode cX8_count 95 = .ok (.ireturn, 1) := by decide +kernel
theorem dJ6_numberOfTrailingZeros_0f7a4_0 : decode cJ6_numberOfTrailingZeros_0f7a4 0 = .ok (.iload_n 0, 1) := by decide +kernel
theorem dJ6_numberOfTrailingZeros_0f7a4_1 : decode cJ6_numberOfTrailingZeros_0f7a4 1 = .ok (.iconst (-1), 1) := by decide +kernel
theorem dJ6_numberOfTrailingZeros_0f7a4_2 : decode cJ6_numberOfTrailingZeros_0f7a4 2 = .ok (.ixor, 1) := by decide +kernel
theorem dJ6_numberOfTrailingZeros_0f7a4_3 : decode cJ6_numberOfTrailingZeros_0f7a4 3 = .ok (.iload_n 0, 1) := by decide +kernel
theorem dJ6_numberOfTrailingZeros_0f7a4_4 : decode cJ6_numberOfTrailingZeros_0f7a4 4 = .ok (.iconst 1, 1) := by decide +kernel
theorem dJ6_numberOfTrailingZeros_0f7a4_5 : decode cJ6_numberOfTrailingZeros_0f7a4 5 = .ok (.isub, 1) := by decide +kernel
theorem dJ6_numberOfTrailingZeros_0f7a4_6 : decode cJ6_numberOfTrailingZeros_0f7a4 6 = .ok (.iand, 1) := by decide +kernel
theorem dJ6_numberOfTrailingZeros_0f7a4_7 : decode cJ6_numberOfTrailingZeros_0f7a4 7 = .ok (.istore_n 0, 1) := by decide +kernel
theorem dJ6_numberOfTrailingZeros_0f7a4_8 : decode cJ6_numberOfTrailingZeros_0f7a4 8 = .ok (.iload_n 0, 1) := by decide +kernel
theorem dJ6_numberOfTrailingZeros_0f7a4_9 : decode cJ6_numberOfTrailingZeros_0f7a4 9 = .ok (.ifCond .gt 8, 3) := by decide +kernel
theorem dJ6_numberOfTrailingZeros_0f7a4_12 : decode cJ6_numberOfTrailingZeros_0f7a4 12 = .ok (.iload_n 0, 1) := by decide +kernel
theorem dJ6_numberOfTrailingZeros_0f7a4_13 : decode cJ6_numberOfTrailingZeros_0f7a4 13 = .ok (.bipush 32, 2) := by decide +kernel
theorem dJ6_numberOfTrailingZeros_0f7a4_15 : decode cJ6_numberOfTrailingZeros_0f7a4 15 = .ok (.iand, 1) := by decide +kernel
theorem dJ6_numberOfTrailingZeros_0f7a4_16 : decode cJ6_numberOfTrailingZeros_0f7a4 16 = .ok (.ireturn, 1) := by decide +kernel
theorem dJ6_numberOfTrailingZeros_0f7a4_17 : decode cJ6_numberOfTrailingZeros_0f7a4 17 = .ok (.iconst 1, 1) := by decide +kernel
theorem dJ6_numberOfTrailingZeros_0f7a4_18 : decode cJ6_numberOfTrailingZeros_0f7a4 18 = .ok (.istore_n 1, 1) := by decide +kernel
theorem dJ6_numberOfTrailingZeros_0f7a4_19 : decode cJ6_numberOfTrailingZeros_0f7a4 19 = .ok (.iload_n 0, 1) := by decide +kernel
theorem dJ6_numberOfTrailingZeros_0f7a4_20 : decode cJ6_numberOfTrailingZeros_0f7a4 20 = .ok (.ldc_w 264, 3) := by decide +kernel
theorem dJ6_numberOfTrailingZeros_0f7a4_23 : decode cJ6_numberOfTrailingZeros_0f7a4 23 = .ok (.if_icmp .le 11, 3) := by decide +kernel
theorem dJ6_numberOfTrailingZeros_0f7a4_26 : decode cJ6_numberOfTrailingZeros_0f7a4 26 = .ok (.iinc 1 16, 3) := by decide +kernel
theorem dJ6_numberOfTrailingZeros_0f7a4_29 : decode cJ6_numberOfTrailingZeros_0f7a4 29 = .ok (.iload_n 0, 1) := by decide +kernel
theorem dJ6_numberOfTrailingZeros_0f7a4_30 : decode cJ6_numberOfTrailingZeros_0f7a4 30 = .ok (.bipush 16, 2) := by decide +kernel
theorem dJ6_numberOfTrailingZeros_0f7a4_32 : decode cJ6_numberOfTrailingZeros_0f7a4 32 = .ok (.iushr, 1) := by decide +kernel
theorem dJ6_numberOfTrailingZeros_0f7a4_33 : decode cJ6_numberOfTrailingZeros_0f7a4 33 = .ok (.istore_n 0, 1) := by decide +kernel
theorem dJ6_numberOfTrailingZeros_0f7a4_34 : decode cJ6_numberOfTrailingZeros_0f7a4 34 = .ok (.iload_n 0, 1) := by decide +kernel
theorem dJ6_numberOfTrailingZeros_0f7a4_35 : decode cJ6_numberOfTrailingZeros_0f7a4 35 = .ok (.sipush 256, 3) := by decide +kernel
theorem dJ6_numberOfTrailingZeros_0f7a4_38 : decode cJ6_numberOfTrailingZeros_0f7a4 38 = .ok (.if_icmp .le 11, 3) := by decide +kernel
theorem dJ6_numberOfTrailingZeros_0f7a4_41 : decode cJ6_numberOfTrailingZeros_0f7a4 41 = .ok (.iinc 1 8, 3) := by decide +kernel
theorem dJ6_numberOfTrailingZeros_0f7a4_44 : decode cJ6_numberOfTrailingZeros_0f7a4 44 = .ok (.iload_n 0, 1) := by decide +kernel
theorem dJ6_numberOfTrailingZeros_0f7a4_45 : decode cJ6_numberOfTrailingZeros_0f7a4 45 = .ok (.bipush 8, 2) := by decide +kernel
theorem dJ6_numberOfTrailingZeros_0f7a4_47 : decode cJ6_numberOfTrailingZeros_0f7a4 47 = .ok (.iushr, 1) := by decide +kernel
theorem dJ6_numberOfTrailingZeros_0f7a4_48 : decode cJ6_numberOfTrailingZeros_0f7a4 48 = .ok (.istore_n 0, 1) := by decide +kernel
theorem dJ6_numberOfTrailingZeros_0f7a4_49 : decode cJ6_numberOfTrailingZeros_0f7a4 49 = .ok (.iload_n 0, 1) := by decide +kernel
theorem dJ6_numberOfTrailingZeros_0f7a4_50 : decode cJ6_numberOfTrailingZeros_0f7a4 50 = .ok (.bipush 16, 2) := by decide +kernel
theorem dJ6_numberOfTrailingZeros_0f7a4_52 : decode cJ6_numberOfTrailingZeros_0f7a4 52 = .ok (.if_icmp .le 10, 3) := by decide +kernel
theorem dJ6_numberOfTrailingZeros_0f7a4_55 : decode cJ6_numberOfTrailingZeros_0f7a4 55 = .ok (.iinc 1 4, 3) := by decide +kernel
theorem dJ6_numberOfTrailingZeros_0f7a4_58 : decode cJ6_numberOfTrailingZeros_0f7a4 58 = .ok (.iload_n 0, 1) := by decide +kernel
theorem dJ6_numberOfTrailingZeros_0f7a4_59 : decode cJ6_numberOfTrailingZeros_0f7a4 59 = .ok (.iconst 4, 1) := by decide +kernel
theorem dJ6_numberOfTrailingZeros_0f7a4_60 : decode cJ6_numberOfTrailingZeros_0f7a4 60 = .ok (.iushr, 1) := by decide +kernel
theorem dJ6_numberOfTrailingZeros_0f7a4_61 : decode cJ6_numberOfTrailingZeros_0f7a4 61 = .ok (.istore_n 0, 1) := by decide +kernel
theorem dJ6_numberOfTrailingZeros_0f7a4_62 : decode cJ6_numberOfTrailingZeros_0f7a4 62 = .ok (.iload_n 0, 1) := by decide +kernel
theorem dJ6_numberOfTrailingZeros_0f7a4_63 : decode cJ6_numberOfTrailingZeros_0f7a4 63 = .ok (.iconst 4, 1) := by decide +kernel
theorem dJ6_numberOfTrailingZeros_0f7a4_64 : decode cJ6_numberOfTrailingZeros_0f7a4 64 = .ok (.if_icmp .le 10, 3) := by decide +kernel
theorem dJ6_numberOfTrailingZeros_0f7a4_67 : decode cJ6_numberOfTrailingZeros_0f7a4 67 = .ok (.iinc 1 2, 3) := by decide +kernel
theorem dJ6_numberOfTrailingZeros_0f7a4_70 : decode cJ6_numberOfTrailingZeros_0f7a4 70 = .ok (.iload_n 0, 1) := by decide +kernel
theorem dJ6_numberOfTrailingZeros_0f7a4_71 : decode cJ6_numberOfTrailingZeros_0f7a4 71 = .ok (.iconst 2, 1) := by decide +kernel
theorem dJ6_numberOfTrailingZeros_0f7a4_72 : decode cJ6_numberOfTrailingZeros_0f7a4 72 = .ok (.iushr, 1) := by decide +kernel
theorem dJ6_numberOfTrailingZeros_0f7a4_73 : decode cJ6_numberOfTrailingZeros_0f7a4 73 = .ok (.istore_n 0, 1) := by decide +kernel
theorem dJ6_numberOfTrailingZeros_0f7a4_74 : decode cJ6_numberOfTrailingZeros_0f7a4 74 = .ok (.iload_n 1, 1) := by decide +kernel
theorem dJ6_numberOfTrailingZeros_0f7a4_75 : decode cJ6_numberOfTrailingZeros_0f7a4 75 = .ok (.iload_n 0, 1) := by decide +kernel
theorem dJ6_numberOfTrailingZeros_0f7a4_76 : decode cJ6_numberOfTrailingZeros_0f7a4 76 = .ok (.iconst 1, 1) := by decide +kernel
theorem dJ6_numberOfTrailingZeros_0f7a4_77 : decode cJ6_numberOfTrailingZeros_0f7a4 77 = .ok (.iushr, 1) := by decide +kernel
theorem dJ6_numberOfTrailingZeros_0f7a4_78 : decode cJ6_numberOfTrailingZeros_0f7a4 78 = .ok (.iadd, 1) := by decide +kernel
theorem dJ6_numberOfTrailingZeros_0f7a4_79 : decode cJ6_numberOfTrailingZeros_0f7a4 79 = .ok (.ireturn, 1) := by decide +kernel
theorem dJ13_numberOfTrailingZeros_95d88_0 : decode cJ13_numberOfTrailingZeros_95d88 0 = .ok (.lload_n 0, 1) := by decide +kernel
theorem dJ13_numberOfTrailingZeros_95d88_1 : decode cJ13_numberOfTrailingZeros_95d88 1 = .ok (.l2i, 1) := by decide +kernel
theorem dJ13_numberOfTrailingZeros_95d88_2 : decode cJ13_numberOfTrailingZeros_95d88 2 = .ok (.istore_n 2, 1) := by decide +kernel
theorem dJ13_numberOfTrailingZeros_95d88_3 : decode cJ13_numberOfTrailingZeros_95d88 3 = .ok (.iload_n 2, 1) := by decide +kernel
theorem dJ13_numberOfTrailingZeros_95d88_4 : decode cJ13_numberOfTrailingZeros_95d88 4 = .ok (.ifCond .ne 17, 3) := by decide +kernel
theorem dJ13_numberOfTrailingZeros_95d88_7 : decode cJ13_numberOfTrailingZeros_95d88 7 = .ok (.bipush 32, 2) := by decide +kernel
theorem dJ13_numberOfTrailingZeros_95d88_9 : decode cJ13_numberOfTrailingZeros_95d88 9 = .ok (.lload_n 0, 1) := by decide +kernel
theorem dJ13_numberOfTrailingZeros_95d88_10 : decode cJ13_numberOfTrailingZeros_95d88 10 = .ok (.bipush 32, 2) := by decide +kernel
theorem dJ13_numberOfTrailingZeros_95d88_12 : decode cJ13_numberOfTrailingZeros_95d88 12 = .ok (.lushr, 1) := by decide +kernel
theorem dJ13_numberOfTrailingZeros_95d88_13 : decode cJ13_numberOfTrailingZeros_95d88 13 = .ok (.l2i, 1) := by decide +kernel
theorem dJ13_numberOfTrailingZeros_95d88_14 : decode cJ13_numberOfTrailingZeros_95d88 14 = .ok (.invokestatic 311, 3) := by decide +kernel
theorem dJ13_numberOfTrailingZeros_95d88_17 : decode cJ13_numberOfTrailingZeros_95d88 17 = .ok (.iadd, 1) := by decide +kernel
theorem dJ13_numberOfTrailingZeros_95d88_18 : decode cJ13_numberOfTrailingZeros_95d88 18 = .ok (.goto 7, 3) := by decide +kernel
theorem dJ13_numberOfTrailingZeros_95d88_21 : decode cJ13_numberOfTrailingZeros_95d88 21 = .ok (.iload_n 2, 1) := by decide +kernel
theorem dJ13_numberOfTrailingZeros_95d88_22 : decode cJ13_numberOfTrailingZeros_95d88 22 = .ok (.invokestatic 311, 3) := by decide +kernel
theorem dJ13_numberOfTrailingZeros_95d88_25 : decode cJ13_numberOfTrailingZeros_95d88 25 = .ok (.ireturn, 1) := by decide +kernel
theorem dJ13_bitCount_95d88_0 : decode cJ13_bitCount_95d88 0 = .ok (.lload_n 0, 1) := by decide +kernel
theorem dJ13_bitCount_95d88_1 : decode cJ13_bitCount_95d88 1 = .ok (.lload_n 0, 1) := by decide +kernel
theorem dJ13_bitCount_95d88_2 : decode cJ13_bitCount_95d88 2 = .ok (.iconst 1, 1) := by decide +kernel
theorem dJ13_bitCount_95d88_3 : decode cJ13_bitCount_95d88 3 = .ok (.lushr, 1) := by decide +kernel
theorem dJ13_bitCount_95d88_4 : decode cJ13_bitCount_95d88 4 = .ok (.ldc2_w 314, 3) := by decide +kernel
theorem dJ13_bitCount_95d88_7 : decode cJ13_bitCount_95d88 7 = .ok (.land, 1) := by decide +kernel
theorem dJ13_bitCount_95d88_8 : decode cJ13_bitCount_95d88 8 = .ok (.lsub, 1) := by decide +kernel
theorem dJ13_bitCount_95d88_9 : decode cJ13_bitCount_95d88 9 = .ok (.lstore_n 0, 1) := by decide +kernel
theorem dJ13_bitCount_95d88_10 : decode cJ13_bitCount_95d88 10 = .ok (.lload_n 0, 1) := by decide +kernel
theorem dJ13_bitCount_95d88_11 : decode cJ13_bitCount_95d88 11 = .ok (.ldc2_w 316, 3) := by decide +kernel
theorem dJ13_bitCount_95d88_14 : decode cJ13_bitCount_95d88 14 = .ok (.land, 1) := by decide +kernel
theorem dJ13_bitCount_95d88_15 : decode cJ13_bitCount_95d88 15 = .ok (.lload_n 0, 1) := by decide +kernel
theorem dJ13_bitCount_95d88_16 : decode cJ13_bitCount_95d88 16 = .ok (.iconst 2, 1) := by decide +kernel
theorem dJ13_bitCount_95d88_17 : decode cJ13_bitCount_95d88 17 = .ok (.lushr, 1) := by decide +kernel
theorem dJ13_bitCount_95d88_18 : decode cJ13_bitCount_95d88 18 = .ok (.ldc2_w 316, 3) := by decide +kernel
theorem dJ13_bitCount_95d88_21 : decode cJ13_bitCount_95d88 21 = .ok (.land, 1) := by decide +kernel
theorem dJ13_bitCount_95d88_22 : decode cJ13_bitCount_95d88 22 = .ok (.ladd, 1) := by decide +kernel
theorem dJ13_bitCount_95d88_23 : decode cJ13_bitCount_95d88 23 = .ok (.lstore_n 0, 1) := by decide +kernel
theorem dJ13_bitCount_95d88_24 : decode cJ13_bitCount_95d88 24 = .ok (.lload_n 0, 1) := by decide +kernel
theorem dJ13_bitCount_95d88_25 : decode cJ13_bitCount_95d88 25 = .ok (.lload_n 0, 1) := by decide +kernel
theorem dJ13_bitCount_95d88_26 : decode cJ13_bitCount_95d88 26 = .ok (.iconst 4, 1) := by decide +kernel
theorem dJ13_bitCount_95d88_27 : decode cJ13_bitCount_95d88 27 = .ok (.lushr, 1) := by decide +kernel
theorem dJ13_bitCount_95d88_28 : decode cJ13_bitCount_95d88 28 = .ok (.ladd, 1) := by decide +kernel
theorem dJ13_bitCount_95d88_29 : decode cJ13_bitCount_95d88 29 = .ok (.ldc2_w 318, 3) := by decide +kernel
theorem dJ13_bitCount_95d88_32 : decode cJ13_bitCount_95d88 32 = .ok (.land, 1) := by decide +kernel
theorem dJ13_bitCount_95d88_33 : decode cJ13_bitCount_95d88 33 = .ok (.lstore_n 0, 1) := by decide +kernel
theorem dJ13_bitCount_95d88_34 : decode cJ13_bitCount_95d88 34 = .ok (.lload_n 0, 1) := by decide +kernel
theorem dJ13_bitCount_95d88_35 : decode cJ13_bitCount_95d88 35 = .ok (.lload_n 0, 1) := by decide +kernel
theorem dJ13_bitCount_95d88_36 : decode cJ13_bitCount_95d88 36 = .ok (.bipush 8, 2) := by decide +kernel
theorem dJ13_bitCount_95d88_38 : decode cJ13_bitCount_95d88 38 = .ok (.lushr, 1) := by decide +kernel
theorem dJ13_bitCount_95d88_39 : decode cJ13_bitCount_95d88 39 = .ok (.ladd, 1) := by decide +kernel
theorem dJ13_bitCount_95d88_40 : decode cJ13_bitCount_95d88 40 = .ok (.lstore_n 0, 1) := by decide +kernel
theorem dJ13_bitCount_95d88_41 : decode cJ13_bitCount_95d88 41 = .ok (.lload_n 0, 1) := by decide +kernel
theorem dJ13_bitCount_95d88_42 : decode cJ13_bitCount_95d88 42 = .ok (.lload_n 0, 1) := by decide +kernel
theorem dJ13_bitCount_95d88_43 : decode cJ13_bitCount_95d88 43 = .ok (.bipush 16, 2) := by decide +kernel
theorem dJ13_bitCount_95d88_45 : decode cJ13_bitCount_95d88 45 = .ok (.lushr, 1) := by decide +kernel
theorem dJ13_bitCount_95d88_46 : decode cJ13_bitCount_95d88 46 = .ok (.ladd, 1) := by decide +kernel
theorem dJ13_bitCount_95d88_47 : decode cJ13_bitCount_95d88 47 = .ok (.lstore_n 0, 1) := by decide +kernel
theorem dJ13_bitCount_95d88_48 : decode cJ13_bitCount_95d88 48 = .ok (.lload_n 0, 1) := by decide +kernel
theorem dJ13_bitCount_95d88_49 : decode cJ13_bitCount_95d88 49 = .ok (.lload_n 0, 1) := by decide +kernel
theorem dJ13_bitCount_95d88_50 : decode cJ13_bitCount_95d88 50 = .ok (.bipush 32, 2) := by decide +kernel
theorem dJ13_bitCount_95d88_52 : decode cJ13_bitCount_95d88 52 = .ok (.lushr, 1) := by decide +kernel
theorem dJ13_bitCount_95d88_53 : decode cJ13_bitCount_95d88 53 = .ok (.ladd, 1) := by decide +kernel
theorem dJ13_bitCount_95d88_54 : decode cJ13_bitCount_95d88 54 = .ok (.lstore_n 0, 1) := by decide +kernel
theorem dJ13_bitCount_95d88_55 : decode cJ13_bitCount_95d88 55 = .ok (.lload_n 0, 1) := by decide +kernel
theorem dJ13_bitCount_95d88_56 : decode cJ13_bitCount_95d88 56 = .ok (.l2i, 1) := by decide +kernel
theorem dJ13_bitCount_95d88_57 : decode cJ13_bitCount_95d88 57 = .ok (.bipush 127, 2) := by decide +kernel
theorem dJ13_bitCount_95d88_59 : decode cJ13_bitCount_95d88 59 = .ok (.iand, 1) := by decide +kernel
theorem dJ13_bitCount_95d88_60 : decode cJ13_bitCount_95d88 60 = .ok (.ireturn, 1) := by decide +kernel
theorem dJ9_max_7cf53_0 : decode cJ9_max_7cf53 0 = .ok (.iload_n 0, 1) := by decide +kernel
theorem dJ9_max_7cf53_1 : decode cJ9_max_7cf53 1 = .ok (.iload_n 1, 1) := by decide +kernel
theorem dJ9_max_7cf53_2 : decode cJ9_max_7cf53 2 = .ok (.if_icmp .lt 7, 3) := by decide +kernel
theorem dJ9_max_7cf53_5 : decode cJ9_max_7cf53 5 = .ok (.iload_n 0, 1) := by decide +kernel
theorem dJ9_max_7cf53_6 : decode cJ9_max_7cf53 6 = .ok (.goto 4, 3) := by decide +kernel
theorem dJ9_max_7cf53_9 : decode cJ9_max_7cf53 9 = .ok (.iload_n 1, 1) := by decide +kernel
theorem dJ9_max_7cf53_10 : decode cJ9_max_7cf53 10 = .ok (.ireturn, 1) := by decide +kernel
theorem dJ9_min_7cf53_0 : decode cJ9_min_7cf53 0 = .ok (.iload_n 0, 1) := by decide +kernel
theorem dJ9_min_7cf53_1 : decode cJ9_min_7cf53 1 = .ok (.iload_n 1, 1) := by decide +kernel
theorem dJ9_min_7cf53_2 : decode cJ9_min_7cf53 2 = .ok (.if_icmp .gt 7, 3) := by decide +kernel
theorem dJ9_min_7cf53_5 : decode cJ9_min_7cf53 5 = .ok (.iload_n 0, 1) := by decide +kernel
theorem dJ9_min_7cf53_6 : decode cJ9_min_7cf53 6 = .ok (.goto 4, 3) := by decide +kernel
theorem dJ9_min_7cf53_9 : decode cJ9_min_7cf53 9 = .ok (.iload_n 1, 1) := by decide +kernel
theorem dJ9_min_7cf53_10 : decode cJ9_min_7cf53 10 = .ok (.ireturn, 1) := by decide +kernel
theorem dJ7_fill_d0a16_0 : decode cJ7_fill_d0a16 0 = .ok (.iconst 0, 1) := by decide +kernel
theorem dJ7_fill_d0a16_1 : decode cJ7_fill_d0a16 1 = .ok (.istore_n 3, 1) := by decide +kernel
theorem dJ7_fill_d0a16_2 : decode cJ7_fill_d0a16 2 = .ok (.aload_n 0, 1) := by decide +kernel
theorem dJ7_fill_d0a16_3 : decode cJ7_fill_d0a16 3 = .ok (.arraylength, 1) := by decide +kernel
theorem dJ7_fill_d0a16_4 : decode cJ7_fill_d0a16 4 = .ok (.istore 4, 2) := by decide +kernel
theorem dJ7_fill_d0a16_6 : decode cJ7_fill_d0a16 6 = .ok (.iload_n 3, 1) := by decide +kernel
theorem dJ7_fill_d0a16_7 : decode cJ7_fill_d0a16 7 = .ok (.iload 4, 2) := by decide +kernel
theorem dJ7_fill_d0a16_9 : decode cJ7_fill_d0a16 9 = .ok (.if_icmp .ge 13, 3) := by decide +kernel
theorem dJ7_fill_d0a16_12 : decode cJ7_fill_d0a16 12 = .ok (.aload_n 0, 1) := by decide +kernel
theorem dJ7_fill_d0a16_13 : decode cJ7_fill_d0a16 13 = .ok (.iload_n 3, 1) := by decide +kernel
theorem dJ7_fill_d0a16_14 : decode cJ7_fill_d0a16 14 = .ok (.lload_n 1, 1) := by decide +kernel
theorem dJ7_fill_d0a16_15 : decode cJ7_fill_d0a16 15 = .ok (.lastore, 1) := by decide +kernel
theorem dJ7_fill_d0a16_16 : decode cJ7_fill_d0a16 16 = .ok (.iinc 3 1, 3) := by decide +kernel
theorem dJ7_fill_d0a16_19 : decode cJ7_fill_d0a16 19 = .ok (.goto (-13), 3) := by decide +kernel
theorem dJ7_fill_d0a16_22 : decode cJ7_fill_d0a16 22 = .ok (.return_, 1) := by decide +kernel
theorem dJ7_fill_53178_0 : decode cJ7_fill_53178 0 = .ok (.iconst 0, 1) := by decide +kernel
theorem dJ7_fill_53178_1 : decode cJ7_fill_53178 1 = .ok (.istore_n 2, 1) := by decide +kernel
theorem dJ7_fill_53178_2 : decode cJ7_fill_53178 2 = .ok (.aload_n 0, 1) := by decide +kernel
theorem dJ7_fill_53178_3 : decode cJ7_fill_53178 3 = .ok (.arraylength, 1) := by decide +kernel
theorem dJ7_fill_53178_4 : decode cJ7_fill_53178 4 = .ok (.istore_n 3, 1) := by decide +kernel
theorem dJ7_fill_53178_5 : decode cJ7_fill_53178 5 = .ok (.iload_n 2, 1) := by decide +kernel
theorem dJ7_fill_53178_6 : decode cJ7_fill_53178 6 = .ok (.iload_n 3, 1) := by decide +kernel
theorem dJ7_fill_53178_7 : decode cJ7_fill_53178 7 = .ok (.if_icmp .ge 13, 3) := by decide +kernel
theorem dJ7_fill_53178_10 : decode cJ7_fill_53178 10 = .ok (.aload_n 0, 1) := by decide +kernel
theorem dJ7_fill_53178_11 : decode cJ7_fill_53178 11 = .ok (.iload_n 2, 1) := by decide +kernel
theorem dJ7_fill_53178_12 : decode cJ7_fill_53178 12 = .ok (.iload_n 1, 1) := by decide +kernel
theorem dJ7_fill_53178_13 : decode cJ7_fill_53178 13 = .ok (.iastore, 1) := by decide +kernel
theorem dJ7_fill_53178_14 : decode cJ7_fill_53178 14 = .ok (.iinc 2 1, 3) := by decide +kernel
theorem dJ7_fill_53178_17 : decode cJ7_fill_53178 17 = .ok (.goto (-12), 3) := by decide +kernel
theorem dJ7_fill_53178_20 : decode cJ7_fill_53178 20 = .ok (.return_, 1) := by decide +kernel
theorem dL_law_0 : decode cL_law 0 = .ok (.new 7, 3) := by decide +kernel
theorem dL_law_3 : decode cL_law 3 = .ok (.dup, 1) := by decide +kernel
theorem dL_law_4 : decode cL_law 4 = .ok (.invokespecial 9, 3) := by decide +kernel
theorem dL_law_7 : decode cL_law 7 = .ok (.astore_n 1, 1) := by decide +kernel
theorem dL_law_8 : decode cL_law 8 = .ok (.new 10, 3) := by decide +kernel
theorem dL_law_11 : decode cL_law 11 = .ok (.dup, 1) := by decide +kernel
theorem dL_law_12 : decode cL_law 12 = .ok (.invokespecial 12, 3) := by decide +kernel
theorem dL_law_15 : decode cL_law 15 = .ok (.astore_n 2, 1) := by decide +kernel
theorem dL_law_16 : decode cL_law 16 = .ok (.iconst 0, 1) := by decide +kernel
theorem dL_law_17 : decode cL_law 17 = .ok (.istore_n 3, 1) := by decide +kernel
theorem dL_law_18 : decode cL_law 18 = .ok (.iload_n 3, 1) := by decide +kernel
theorem dL_law_19 : decode cL_law 19 = .ok (.aload_n 0, 1) := by decide +kernel
theorem dL_law_20 : decode cL_law 20 = .ok (.arraylength, 1) := by decide +kernel
theorem dL_law_21 : decode cL_law 21 = .ok (.iconst 4, 1) := by decide +kernel
theorem dL_law_22 : decode cL_law 22 = .ok (.isub, 1) := by decide +kernel
theorem dL_law_23 : decode cL_law 23 = .ok (.if_icmp .gt 598, 3) := by decide +kernel
theorem dL_law_26 : decode cL_law 26 = .ok (.aload_n 0, 1) := by decide +kernel
theorem dL_law_27 : decode cL_law 27 = .ok (.iload_n 3, 1) := by decide +kernel
theorem dL_law_28 : decode cL_law 28 = .ok (.iaload, 1) := by decide +kernel
theorem dL_law_29 : decode cL_law 29 = .ok (.bipush 31, 2) := by decide +kernel
theorem dL_law_31 : decode cL_law 31 = .ok (.iand, 1) := by decide +kernel
theorem dL_law_32 : decode cL_law 32 = .ok (.tableswitch 583 0 21 #[104, 127, 140, 153, 176, 199, 242, 275, 308, 321, 334, 347, 370, 384, 407, 431, 455, 478, 501, 514, 537, 560], 104) := by decide +kernel
theorem dL_law_136 : decode cL_law 136 = .ok (.aload_n 1, 1) := by decide +kernel
theorem dL_law_137 : decode cL_law 137 = .ok (.aload_n 0, 1) := by decide +kernel
theorem dL_law_138 : decode cL_law 138 = .ok (.iload_n 3, 1) := by decide +kernel
theorem dL_law_139 : decode cL_law 139 = .ok (.iconst 1, 1) := by decide +kernel
theorem dL_law_140 : decode cL_law 140 = .ok (.iadd, 1) := by decide +kernel
theorem dL_law_141 : decode cL_law 141 = .ok (.iaload, 1) := by decide +kernel
theorem dL_law_142 : decode cL_law 142 = .ok (.invokevirtual 13, 3) := by decide +kernel
theorem dL_law_145 : decode cL_law 145 = .ok (.aload_n 2, 1) := by decide +kernel
theorem dL_law_146 : decode cL_law 146 = .ok (.aload_n 0, 1) := by decide +kernel
theorem dL_law_147 : decode cL_law 147 = .ok (.iload_n 3, 1) := by decide +kernel
theorem dL_law_148 : decode cL_law 148 = .ok (.iconst 1, 1) := by decide +kernel
theorem dL_law_149 : decode cL_law 149 = .ok (.iadd, 1) := by decide +kernel
theorem dL_law_150 : decode cL_law 150 = .ok (.iaload, 1) := by decide +kernel
theorem dL_law_151 : decode cL_law 151 = .ok (.invokevirtual 17, 3) := by decide +kernel
theorem dL_law_154 : decode cL_law 154 = .ok (.if_icmp .eq 461, 3) := by decide +kernel
theorem dL_law_157 : decode cL_law 157 = .ok (.iconst 0, 1) := by decide +kernel
theorem dL_law_158 : decode cL_law 158 = .ok (.ireturn, 1) := by decide +kernel
theorem dL_law_159 : decode cL_law 159 = .ok (.aload_n 1, 1) := by decide +kernel
theorem dL_law_160 : decode cL_law 160 = .ok (.invokevirtual 18, 3) := by decide +kernel
theorem dL_law_163 : decode cL_law 163 = .ok (.aload_n 2, 1) := by decide +kernel
theorem dL_law_164 : decode cL_law 164 = .ok (.invokevirtual 22, 3) := by decide +kernel
theorem dL_law_167 : decode cL_law 167 = .ok (.if_icmp .eq 448, 3) := by decide +kernel
theorem dL_law_170 : decode cL_law 170 = .ok (.iconst 0, 1) := by decide +kernel
theorem dL_law_171 : decode cL_law 171 = .ok (.ireturn, 1) := by decide +kernel
theorem dL_law_172 : decode cL_law 172 = .ok (.aload_n 1, 1) := by decide +kernel
theorem dL_law_173 : decode cL_law 173 = .ok (.invokevirtual 23, 3) := by decide +kernel
theorem dL_law_176 : decode cL_law 176 = .ok (.aload_n 2, 1) := by decide +kernel
theorem dL_law_177 : decode cL_law 177 = .ok (.invokevirtual 26, 3) := by decide +kernel
theorem dL_law_180 : decode cL_law 180 = .ok (.if_icmp .eq 435, 3) := by decide +kernel
theorem dL_law_183 : decode cL_law 183 = .ok (.iconst 0, 1) := by decide +kernel
theorem dL_law_184 : decode cL_law 184 = .ok (.ireturn, 1) := by decide +kernel
theorem dL_law_185 : decode cL_law 185 = .ok (.aload_n 1, 1) := by decide +kernel
theorem dL_law_186 : decode cL_law 186 = .ok (.aload_n 0, 1) := by decide +kernel
theorem dL_law_187 : decode cL_law 187 = .ok (.iload_n 3, 1) := by decide +kernel
theorem dL_law_188 : decode cL_law 188 = .ok (.iconst 1, 1) := by decide +kernel
theorem dL_law_189 : decode cL_law 189 = .ok (.iadd, 1) := by decide +kernel
theorem dL_law_190 : decode cL_law 190 = .ok (.iaload, 1) := by decide +kernel
theorem dL_law_191 : decode cL_law 191 = .ok (.invokevirtual 27, 3) := by decide +kernel
theorem dL_law_194 : decode cL_law 194 = .ok (.aload_n 2, 1) := by decide +kernel
theorem dL_law_195 : decode cL_law 195 = .ok (.aload_n 0, 1) := by decide +kernel
theorem dL_law_196 : decode cL_law 196 = .ok (.iload_n 3, 1) := by decide +kernel
theorem dL_law_197 : decode cL_law 197 = .ok (.iconst 1, 1) := by decide +kernel
theorem dL_law_198 : decode cL_law 198 = .ok (.iadd, 1) := by decide +kernel
theorem dL_law_199 : decode cL_law 199 = .ok (.iaload, 1) := by decide +kernel
theorem dL_law_200 : decode cL_law 200 = .ok (.invokevirtual 30, 3) := by decide +kernel
theorem dL_law_203 : decode cL_law 203 = .ok (.if_icmp .eq 412, 3) := by decide +kernel
theorem dL_law_206 : decode cL_law 206 = .ok (.iconst 0, 1) := by decide +kernel
theorem dL_law_207 : decode cL_law 207 = .ok (.ireturn, 1) := by decide +kernel
theorem dL_law_208 : decode cL_law 208 = .ok (.aload_n 1, 1) := by decide +kernel
theorem dL_law_209 : decode cL_law 209 = .ok (.aload_n 0, 1) := by decide +kernel
theorem dL_law_210 : decode cL_law 210 = .ok (.iload_n 3, 1) := by decide +kernel
theorem dL_law_211 : decode cL_law 211 = .ok (.iconst 1, 1) := by decide +kernel
theorem dL_law_212 : decode cL_law 212 = .ok (.iadd, 1) := by decide +kernel
theorem dL_law_213 : decode cL_law 213 = .ok (.iaload, 1) := by decide +kernel
theorem dL_law_214 : decode cL_law 214 = .ok (.invokevirtual 31, 3) := by decide +kernel
theorem dL_law_217 : decode cL_law 217 = .ok (.aload_n 2, 1) := by decide +kernel
theorem dL_law_218 : decode cL_law 218 = .ok (.aload_n 0, 1) := by decide +kernel
theorem dL_law_219 : decode cL_law 219 = .ok (.iload_n 3, 1) := by decide +kernel
theorem dL_law_220 : decode cL_law 220 = .ok (.iconst 1, 1) := by decide +kernel
theorem dL_law_221 : decode cL_law 221 = .ok (.iadd, 1) := by decide +kernel
theorem dL_law_222 : decode cL_law 222 = .ok (.iaload, 1) := by decide +kernel
theorem dL_law_223 : decode cL_law 223 = .ok (.invokevirtual 34, 3) := by decide +kernel
theorem dL_law_226 : decode cL_law 226 = .ok (.if_icmp .eq 389, 3) := by decide +kernel
theorem dL_law_229 : decode cL_law 229 = .ok (.iconst 0, 1) := by decide +kernel
theorem dL_law_230 : decode cL_law 230 = .ok (.ireturn, 1) := by decide +kernel
theorem dL_law_231 : decode cL_law 231 = .ok (.aload_n 1, 1) := by decide +kernel
theorem dL_law_232 : decode cL_law 232 = .ok (.aload_n 0, 1) := by decide +kernel
theorem dL_law_233 : decode cL_law 233 = .ok (.iload_n 3, 1) := by decide +kernel
theorem dL_law_234 : decode cL_law 234 = .ok (.iconst 1, 1) := by decide +kernel
theorem dL_law_235 : decode cL_law 235 = .ok (.iadd, 1) := by decide +kernel
theorem dL_law_236 : decode cL_law 236 = .ok (.iaload, 1) := by decide +kernel
theorem dL_law_237 : decode cL_law 237 = .ok (.aload_n 0, 1) := by decide +kernel
theorem dL_law_238 : decode cL_law 238 = .ok (.iload_n 3, 1) := by decide +kernel
theorem dL_law_239 : decode cL_law 239 = .ok (.iconst 2, 1) := by decide +kernel
theorem dL_law_240 : decode cL_law 240 = .ok (.iadd, 1) := by decide +kernel
theorem dL_law_241 : decode cL_law 241 = .ok (.iaload, 1) := by decide +kernel
theorem dL_law_242 : decode cL_law 242 = .ok (.aload_n 0, 1) := by decide +kernel
theorem dL_law_243 : decode cL_law 243 = .ok (.iload_n 3, 1) := by decide +kernel
theorem dL_law_244 : decode cL_law 244 = .ok (.iconst 3, 1) := by decide +kernel
theorem dL_law_245 : decode cL_law 245 = .ok (.iadd, 1) := by decide +kernel
theorem dL_law_246 : decode cL_law 246 = .ok (.iaload, 1) := by decide +kernel
theorem dL_law_247 : decode cL_law 247 = .ok (.invokevirtual 35, 3) := by decide +kernel
theorem dL_law_250 : decode cL_law 250 = .ok (.aload_n 2, 1) := by decide +kernel
theorem dL_law_251 : decode cL_law 251 = .ok (.aload_n 0, 1) := by decide +kernel
theorem dL_law_252 : decode cL_law 252 = .ok (.iload_n 3, 1) := by decide +kernel
theorem dL_law_253 : decode cL_law 253 = .ok (.iconst 1, 1) := by decide +kernel
theorem dL_law_254 : decode cL_law 254 = .ok (.iadd, 1) := by decide +kernel
theorem dL_law_255 : decode cL_law 255 = .ok (.iaload, 1) := by decide +kernel
theorem dL_law_256 : decode cL_law 256 = .ok (.aload_n 0, 1) := by decide +kernel
theorem dL_law_257 : decode cL_law 257 = .ok (.iload_n 3, 1) := by decide +kernel
theorem dL_law_258 : decode cL_law 258 = .ok (.iconst 2, 1) := by decide +kernel
theorem dL_law_259 : decode cL_law 259 = .ok (.iadd, 1) := by decide +kernel
theorem dL_law_260 : decode cL_law 260 = .ok (.iaload, 1) := by decide +kernel
theorem dL_law_261 : decode cL_law 261 = .ok (.aload_n 0, 1) := by decide +kernel
theorem dL_law_262 : decode cL_law 262 = .ok (.iload_n 3, 1) := by decide +kernel
theorem dL_law_263 : decode cL_law 263 = .ok (.iconst 3, 1) := by decide +kernel
theorem dL_law_264 : decode cL_law 264 = .ok (.iadd, 1) := by decide +kernel
theorem dL_law_265 : decode cL_law 265 = .ok (.iaload, 1) := by decide +kernel
theorem dL_law_266 : decode cL_law 266 = .ok (.invokevirtual 39, 3) := by decide +kernel
theorem dL_law_269 : decode cL_law 269 = .ok (.if_icmp .eq 346, 3) := by decide +kernel
theorem dL_law_272 : decode cL_law 272 = .ok (.iconst 0, 1) := by decide +kernel
theorem dL_law_273 : decode cL_law 273 = .ok (.ireturn, 1) := by decide +kernel
theorem dL_law_274 : decode cL_law 274 = .ok (.aload_n 1, 1) := by decide +kernel
theorem dL_law_275 : decode cL_law 275 = .ok (.aload_n 0, 1) := by decide +kernel
theorem dL_law_276 : decode cL_law 276 = .ok (.iload_n 3, 1) := by decide +kernel
theorem dL_law_277 : decode cL_law 277 = .ok (.iconst 1, 1) := by decide +kernel
theorem dL_law_278 : decode cL_law 278 = .ok (.iadd, 1) := by decide +kernel
theorem dL_law_279 : decode cL_law 279 = .ok (.iaload, 1) := by decide +kernel
theorem dL_law_280 : decode cL_law 280 = .ok (.aload_n 0, 1) := by decide +kernel
theorem dL_law_281 : decode cL_law 281 = .ok (.iload_n 3, 1) := by decide +kernel
theorem dL_law_282 : decode cL_law 282 = .ok (.iconst 2, 1) := by decide +kernel
theorem dL_law_283 : decode cL_law 283 = .ok (.iadd, 1) := by decide +kernel
theorem dL_law_284 : decode cL_law 284 = .ok (.iaload, 1) := by decide +kernel
theorem dL_law_285 : decode cL_law 285 = .ok (.invokevirtual 40, 3) := by decide +kernel
theorem dL_law_288 : decode cL_law 288 = .ok (.aload_n 2, 1) := by decide +kernel
theorem dL_law_289 : decode cL_law 289 = .ok (.aload_n 0, 1) := by decide +kernel
theorem dL_law_290 : decode cL_law 290 = .ok (.iload_n 3, 1) := by decide +kernel
theorem dL_law_291 : decode cL_law 291 = .ok (.iconst 1, 1) := by decide +kernel
theorem dL_law_292 : decode cL_law 292 = .ok (.iadd, 1) := by decide +kernel
theorem dL_law_293 : decode cL_law 293 = .ok (.iaload, 1) := by decide +kernel
theorem dL_law_294 : decode cL_law 294 = .ok (.aload_n 0, 1) := by decide +kernel
theorem dL_law_295 : decode cL_law 295 = .ok (.iload_n 3, 1) := by decide +kernel
theorem dL_law_296 : decode cL_law 296 = .ok (.iconst 2, 1) := by decide +kernel
theorem dL_law_297 : decode cL_law 297 = .ok (.iadd, 1) := by decide +kernel
theorem dL_law_298 : decode cL_law 298 = .ok (.iaload, 1) := by decide +kernel
theorem dL_law_299 : decode cL_law 299 = .ok (.invokevirtual 44, 3) := by decide +kernel
theorem dL_law_302 : decode cL_law 302 = .ok (.if_icmp .eq 313, 3) := by decide +kernel
theorem dL_law_305 : decode cL_law 305 = .ok (.iconst 0, 1) := by decide +kernel
theorem dL_law_306 : decode cL_law 306 = .ok (.ireturn, 1) := by decide +kernel
theorem dL_law_307 : decode cL_law 307 = .ok (.aload_n 1, 1) := by decide +kernel
theorem dL_law_308 : decode cL_law 308 = .ok (.aload_n 0, 1) := by decide +kernel
theorem dL_law_309 : decode cL_law 309 = .ok (.iload_n 3, 1) := by decide +kernel
theorem dL_law_310 : decode cL_law 310 = .ok (.iconst 1, 1) := by decide +kernel
theorem dL_law_311 : decode cL_law 311 = .ok (.iadd, 1) := by decide +kernel
theorem dL_law_312 : decode cL_law 312 = .ok (.iaload, 1) := by decide +kernel
theorem dL_law_313 : decode cL_law 313 = .ok (.aload_n 0, 1) := by decide +kernel
theorem dL_law_314 : decode cL_law 314 = .ok (.iload_n 3, 1) := by decide +kernel
theorem dL_law_315 : decode cL_law 315 = .ok (.iconst 2, 1) := by decide +kernel
theorem dL_law_316 : decode cL_law 316 = .ok (.iadd, 1) := by decide +kernel
theorem dL_law_317 : decode cL_law 317 = .ok (.iaload, 1) := by decide +kernel
theorem dL_law_318 : decode cL_law 318 = .ok (.invokevirtual 45, 3) := by decide +kernel
theorem dL_law_321 : decode cL_law 321 = .ok (.aload_n 2, 1) := by decide +kernel
theorem dL_law_322 : decode cL_law 322 = .ok (.aload_n 0, 1) := by decide +kernel
theorem dL_law_323 : decode cL_law 323 = .ok (.iload_n 3, 1) := by decide +kernel
theorem dL_law_324 : decode cL_law 324 = .ok (.iconst 1, 1) := by decide +kernel
theorem dL_law_325 : decode cL_law 325 = .ok (.iadd, 1) := by decide +kernel
theorem dL_law_326 : decode cL_law 326 = .ok (.iaload, 1) := by decide +kernel
theorem dL_law_327 : decode cL_law 327 = .ok (.aload_n 0, 1) := by decide +kernel
theorem dL_law_328 : decode cL_law 328 = .ok (.iload_n 3, 1) := by decide +kernel
theorem dL_law_329 : decode cL_law 329 = .ok (.iconst 2, 1) := by decide +kernel
theorem dL_law_330 : decode cL_law 330 = .ok (.iadd, 1) := by decide +kernel
theorem dL_law_331 : decode cL_law 331 = .ok (.iaload, 1) := by decide +kernel
theorem dL_law_332 : decode cL_law 332 = .ok (.invokevirtual 48, 3) := by decide +kernel
theorem dL_law_335 : decode cL_law 335 = .ok (.if_icmp .eq 280, 3) := by decide +kernel
theorem dL_law_338 : decode cL_law 338 = .ok (.iconst 0, 1) := by decide +kernel
theorem dL_law_339 : decode cL_law 339 = .ok (.ireturn, 1) := by decide +kernel
theorem dL_law_340 : decode cL_law 340 = .ok (.aload_n 1, 1) := by decide +kernel
theorem dL_law_341 : decode cL_law 341 = .ok (.invokevirtual 49, 3) := by decide +kernel
theorem dL_law_344 : decode cL_law 344 = .ok (.aload_n 2, 1) := by decide +kernel
theorem dL_law_345 : decode cL_law 345 = .ok (.invokevirtual 52, 3) := by decide +kernel
theorem dL_law_348 : decode cL_law 348 = .ok (.if_icmp .eq 267, 3) := by decide +kernel
theorem dL_law_351 : decode cL_law 351 = .ok (.iconst 0, 1) := by decide +kernel
theorem dL_law_352 : decode cL_law 352 = .ok (.ireturn, 1) := by decide +kernel
theorem dL_law_353 : decode cL_law 353 = .ok (.aload_n 1, 1) := by decide +kernel
theorem dL_law_354 : decode cL_law 354 = .ok (.invokevirtual 53, 3) := by decide +kernel
theorem dL_law_357 : decode cL_law 357 = .ok (.aload_n 2, 1) := by decide +kernel
theorem dL_law_358 : decode cL_law 358 = .ok (.invokevirtual 56, 3) := by decide +kernel
theorem dL_law_361 : decode cL_law 361 = .ok (.if_icmp .eq 254, 3) := by decide +kernel
theorem dL_law_364 : decode cL_law 364 = .ok (.iconst 0, 1) := by decide +kernel
theorem dL_law_365 : decode cL_law 365 = .ok (.ireturn, 1) := by decide +kernel
theorem dL_law_366 : decode cL_law 366 = .ok (.aload_n 1, 1) := by decide +kernel
theorem dL_law_367 : decode cL_law 367 = .ok (.invokevirtual 57, 3) := by decide +kernel
theorem dL_law_370 : decode cL_law 370 = .ok (.aload_n 2, 1) := by decide +kernel
theorem dL_law_371 : decode cL_law 371 = .ok (.invokevirtual 60, 3) := by decide +kernel
theorem dL_law_374 : decode cL_law 374 = .ok (.if_icmp .eq 241, 3) := by decide +kernel
theorem dL_law_377 : decode cL_law 377 = .ok (.iconst 0, 1) := by decide +kernel
theorem dL_law_378 : decode cL_law 378 = .ok (.ireturn, 1) := by decide +kernel
theorem dL_law_379 : decode cL_law 379 = .ok (.aload_n 1, 1) := by decide +kernel
theorem dL_law_380 : decode cL_law 380 = .ok (.aload_n 0, 1) := by decide +kernel
theorem dL_law_381 : decode cL_law 381 = .ok (.iload_n 3, 1) := by decide +kernel
theorem dL_law_382 : decode cL_law 382 = .ok (.iconst 1, 1) := by decide +kernel
theorem dL_law_383 : decode cL_law 383 = .ok (.iadd, 1) := by decide +kernel
theorem dL_law_384 : decode cL_law 384 = .ok (.iaload, 1) := by decide +kernel
theorem dL_law_385 : decode cL_law 385 = .ok (.invokevirtual 61, 3) := by decide +kernel
theorem dL_law_388 : decode cL_law 388 = .ok (.aload_n 2, 1) := by decide +kernel
theorem dL_law_389 : decode cL_law 389 = .ok (.aload_n 0, 1) := by decide +kernel
theorem dL_law_390 : decode cL_law 390 = .ok (.iload_n 3, 1) := by decide +kernel
theorem dL_law_391 : decode cL_law 391 = .ok (.iconst 1, 1) := by decide +kernel
theorem dL_law_392 : decode cL_law 392 = .ok (.iadd, 1) := by decide +kernel
theorem dL_law_393 : decode cL_law 393 = .ok (.iaload, 1) := by decide +kernel
theorem dL_law_394 : decode cL_law 394 = .ok (.invokevirtual 64, 3) := by decide +kernel
theorem dL_law_397 : decode cL_law 397 = .ok (.if_icmp .eq 218, 3) := by decide +kernel
theorem dL_law_400 : decode cL_law 400 = .ok (.iconst 0, 1) := by decide +kernel
theorem dL_law_401 : decode cL_law 401 = .ok (.ireturn, 1) := by decide +kernel
theorem dL_law_402 : decode cL_law 402 = .ok (.aload_n 1, 1) := by decide +kernel
theorem dL_law_403 : decode cL_law 403 = .ok (.invokevirtual 65, 3) := by decide +kernel
theorem dL_law_406 : decode cL_law 406 = .ok (.aload_n 2, 1) := by decide +kernel
theorem dL_law_407 : decode cL_law 407 = .ok (.invokevirtual 69, 3) := by decide +kernel
theorem dL_law_410 : decode cL_law 410 = .ok (.lcmp, 1) := by decide +kernel
theorem dL_law_411 : decode cL_law 411 = .ok (.ifCond .eq 204, 3) := by decide +kernel
theorem dL_law_414 : decode cL_law 414 = .ok (.iconst 0, 1) := by decide +kernel
theorem dL_law_415 : decode cL_law 415 = .ok (.ireturn, 1) := by decide +kernel
theorem dL_law_416 : decode cL_law 416 = .ok (.aload_n 1, 1) := by decide +kernel
theorem dL_law_417 : decode cL_law 417 = .ok (.aload_n 0, 1) := by decide +kernel
theorem dL_law_418 : decode cL_law 418 = .ok (.iload_n 3, 1) := by decide +kernel
theorem dL_law_419 : decode cL_law 419 = .ok (.iconst 1, 1) := by decide +kernel
theorem dL_law_420 : decode cL_law 420 = .ok (.iadd, 1) := by decide +kernel
theorem dL_law_421 : decode cL_law 421 = .ok (.iaload, 1) := by decide +kernel
theorem dL_law_422 : decode cL_law 422 = .ok (.invokevirtual 70, 3) := by decide +kernel
theorem dL_law_425 : decode cL_law 425 = .ok (.aload_n 2, 1) := by decide +kernel
theorem dL_law_426 : decode cL_law 426 = .ok (.aload_n 0, 1) := by decide +kernel
theorem dL_law_427 : decode cL_law 427 = .ok (.iload_n 3, 1) := by decide +kernel
theorem dL_law_428 : decode cL_law 428 = .ok (.iconst 1, 1) := by decide +kernel
theorem dL_law_429 : decode cL_law 429 = .ok (.iadd, 1) := by decide +kernel
theorem dL_law_430 : decode cL_law 430 = .ok (.iaload, 1) := by decide +kernel
theorem dL_law_431 : decode cL_law 431 = .ok (.invokevirtual 73, 3) := by decide +kernel
theorem dL_law_434 : decode cL_law 434 = .ok (.if_icmp .eq 181, 3) := by decide +kernel
theorem dL_law_437 : decode cL_law 437 = .ok (.iconst 0, 1) := by decide +kernel
theorem dL_law_438 : decode cL_law 438 = .ok (.ireturn, 1) := by decide +kernel
theorem dL_law_439 : decode cL_law 439 = .ok (.aload_n 1, 1) := by decide +kernel
theorem dL_law_440 : decode cL_law 440 = .ok (.aload_n 0, 1) := by decide +kernel
theorem dL_law_441 : decode cL_law 441 = .ok (.iload_n 3, 1) := by decide +kernel
theorem dL_law_442 : decode cL_law 442 = .ok (.iconst 1, 1) := by decide +kernel
theorem dL_law_443 : decode cL_law 443 = .ok (.iadd, 1) := by decide +kernel
theorem dL_law_444 : decode cL_law 444 = .ok (.iaload, 1) := by decide +kernel
theorem dL_law_445 : decode cL_law 445 = .ok (.invokevirtual 74, 3) := by decide +kernel
theorem dL_law_448 : decode cL_law 448 = .ok (.aload_n 2, 1) := by decide +kernel
theorem dL_law_449 : decode cL_law 449 = .ok (.aload_n 0, 1) := by decide +kernel
theorem dL_law_450 : decode cL_law 450 = .ok (.iload_n 3, 1) := by decide +kernel
theorem dL_law_451 : decode cL_law 451 = .ok (.iconst 1, 1) := by decide +kernel
theorem dL_law_452 : decode cL_law 452 = .ok (.iadd, 1) := by decide +kernel
theorem dL_law_453 : decode cL_law 453 = .ok (.iaload, 1) := by decide +kernel
theorem dL_law_454 : decode cL_law 454 = .ok (.invokevirtual 78, 3) := by decide +kernel
theorem dL_law_457 : decode cL_law 457 = .ok (.lcmp, 1) := by decide +kernel
theorem dL_law_458 : decode cL_law 458 = .ok (.ifCond .eq 157, 3) := by decide +kernel
theorem dL_law_461 : decode cL_law 461 = .ok (.iconst 0, 1) := by decide +kernel
theorem dL_law_462 : decode cL_law 462 = .ok (.ireturn, 1) := by decide +kernel
theorem dL_law_463 : decode cL_law 463 = .ok (.aload_n 1, 1) := by decide +kernel
theorem dL_law_464 : decode cL_law 464 = .ok (.aload_n 0, 1) := by decide +kernel
theorem dL_law_465 : decode cL_law 465 = .ok (.iload_n 3, 1) := by decide +kernel
theorem dL_law_466 : decode cL_law 466 = .ok (.iconst 1, 1) := by decide +kernel
theorem dL_law_467 : decode cL_law 467 = .ok (.iadd, 1) := by decide +kernel
theorem dL_law_468 : decode cL_law 468 = .ok (.iaload, 1) := by decide +kernel
theorem dL_law_469 : decode cL_law 469 = .ok (.invokevirtual 79, 3) := by decide +kernel
theorem dL_law_472 : decode cL_law 472 = .ok (.aload_n 2, 1) := by decide +kernel
theorem dL_law_473 : decode cL_law 473 = .ok (.aload_n 0, 1) := by decide +kernel
theorem dL_law_474 : decode cL_law 474 = .ok (.iload_n 3, 1) := by decide +kernel
theorem dL_law_475 : decode cL_law 475 = .ok (.iconst 1, 1) := by decide +kernel
theorem dL_law_476 : decode cL_law 476 = .ok (.iadd, 1) := by decide +kernel
theorem dL_law_477 : decode cL_law 477 = .ok (.iaload, 1) := by decide +kernel
theorem dL_law_478 : decode cL_law 478 = .ok (.invokevirtual 82, 3) := by decide +kernel
theorem dL_law_481 : decode cL_law 481 = .ok (.lcmp, 1) := by decide +kernel
theorem dL_law_482 : decode cL_law 482 = .ok (.ifCond .eq 133, 3) := by decide +kernel
theorem dL_law_485 : decode cL_law 485 = .ok (.iconst 0, 1) := by decide +kernel
theorem dL_law_486 : decode cL_law 486 = .ok (.ireturn, 1) := by decide +kernel
theorem dL_law_487 : decode cL_law 487 = .ok (.aload_n 1, 1) := by decide +kernel
theorem dL_law_488 : decode cL_law 488 = .ok (.aload_n 0, 1) := by decide +kernel
theorem dL_law_489 : decode cL_law 489 = .ok (.iload_n 3, 1) := by decide +kernel
theorem dL_law_490 : decode cL_law 490 = .ok (.iconst 1, 1) := by decide +kernel
theorem dL_law_491 : decode cL_law 491 = .ok (.iadd, 1) := by decide +kernel
theorem dL_law_492 : decode cL_law 492 = .ok (.iaload, 1) := by decide +kernel
theorem dL_law_493 : decode cL_law 493 = .ok (.invokevirtual 83, 3) := by decide +kernel
theorem dL_law_496 : decode cL_law 496 = .ok (.aload_n 2, 1) := by decide +kernel
theorem dL_law_497 : decode cL_law 497 = .ok (.aload_n 0, 1) := by decide +kernel
theorem dL_law_498 : decode cL_law 498 = .ok (.iload_n 3, 1) := by decide +kernel
theorem dL_law_499 : decode cL_law 499 = .ok (.iconst 1, 1) := by decide +kernel
theorem dL_law_500 : decode cL_law 500 = .ok (.iadd, 1) := by decide +kernel
theorem dL_law_501 : decode cL_law 501 = .ok (.iaload, 1) := by decide +kernel
theorem dL_law_502 : decode cL_law 502 = .ok (.invokevirtual 86, 3) := by decide +kernel
theorem dL_law_505 : decode cL_law 505 = .ok (.if_icmp .eq 110, 3) := by decide +kernel
theorem dL_law_508 : decode cL_law 508 = .ok (.iconst 0, 1) := by decide +kernel
theorem dL_law_509 : decode cL_law 509 = .ok (.ireturn, 1) := by decide +kernel
theorem dL_law_510 : decode cL_law 510 = .ok (.aload_n 1, 1) := by decide +kernel
theorem dL_law_511 : decode cL_law 511 = .ok (.aload_n 0, 1) := by decide +kernel
theorem dL_law_512 : decode cL_law 512 = .ok (.iload_n 3, 1) := by decide +kernel
theorem dL_law_513 : decode cL_law 513 = .ok (.iconst 1, 1) := by decide +kernel
theorem dL_law_514 : decode cL_law 514 = .ok (.iadd, 1) := by decide +kernel
theorem dL_law_515 : decode cL_law 515 = .ok (.iaload, 1) := by decide +kernel
theorem dL_law_516 : decode cL_law 516 = .ok (.invokevirtual 87, 3) := by decide +kernel
theorem dL_law_519 : decode cL_law 519 = .ok (.aload_n 2, 1) := by decide +kernel
theorem dL_law_520 : decode cL_law 520 = .ok (.aload_n 0, 1) := by decide +kernel
theorem dL_law_521 : decode cL_law 521 = .ok (.iload_n 3, 1) := by decide +kernel
theorem dL_law_522 : decode cL_law 522 = .ok (.iconst 1, 1) := by decide +kernel
theorem dL_law_523 : decode cL_law 523 = .ok (.iadd, 1) := by decide +kernel
theorem dL_law_524 : decode cL_law 524 = .ok (.iaload, 1) := by decide +kernel
theorem dL_law_525 : decode cL_law 525 = .ok (.invokevirtual 90, 3) := by decide +kernel
theorem dL_law_528 : decode cL_law 528 = .ok (.if_icmp .eq 87, 3) := by decide +kernel
theorem dL_law_531 : decode cL_law 531 = .ok (.iconst 0, 1) := by decide +kernel
theorem dL_law_532 : decode cL_law 532 = .ok (.ireturn, 1) := by decide +kernel
theorem dL_law_533 : decode cL_law 533 = .ok (.aload_n 1, 1) := by decide +kernel
theorem dL_law_534 : decode cL_law 534 = .ok (.invokevirtual 91, 3) := by decide +kernel
theorem dL_law_537 : decode cL_law 537 = .ok (.aload_n 2, 1) := by decide +kernel
theorem dL_law_538 : decode cL_law 538 = .ok (.invokevirtual 94, 3) := by decide +kernel
theorem dL_law_541 : decode cL_law 541 = .ok (.if_icmp .eq 74, 3) := by decide +kernel
theorem dL_law_544 : decode cL_law 544 = .ok (.iconst 0, 1) := by decide +kernel
theorem dL_law_545 : decode cL_law 545 = .ok (.ireturn, 1) := by decide +kernel
theorem dL_law_546 : decode cL_law 546 = .ok (.aload_n 1, 1) := by decide +kernel
theorem dL_law_547 : decode cL_law 547 = .ok (.aload_n 0, 1) := by decide +kernel
theorem dL_law_548 : decode cL_law 548 = .ok (.iload_n 3, 1) := by decide +kernel
theorem dL_law_549 : decode cL_law 549 = .ok (.iconst 1, 1) := by decide +kernel
theorem dL_law_550 : decode cL_law 550 = .ok (.iadd, 1) := by decide +kernel
theorem dL_law_551 : decode cL_law 551 = .ok (.iaload, 1) := by decide +kernel
theorem dL_law_552 : decode cL_law 552 = .ok (.invokevirtual 95, 3) := by decide +kernel
theorem dL_law_555 : decode cL_law 555 = .ok (.aload_n 2, 1) := by decide +kernel
theorem dL_law_556 : decode cL_law 556 = .ok (.aload_n 0, 1) := by decide +kernel
theorem dL_law_557 : decode cL_law 557 = .ok (.iload_n 3, 1) := by decide +kernel
theorem dL_law_558 : decode cL_law 558 = .ok (.iconst 1, 1) := by decide +kernel
theorem dL_law_559 : decode cL_law 559 = .ok (.iadd, 1) := by decide +kernel
theorem dL_law_560 : decode cL_law 560 = .ok (.iaload, 1) := by decide +kernel
theorem dL_law_561 : decode cL_law 561 = .ok (.invokevirtual 98, 3) := by decide +kernel
theorem dL_law_564 : decode cL_law 564 = .ok (.if_icmp .eq 51, 3) := by decide +kernel
theorem dL_law_567 : decode cL_law 567 = .ok (.iconst 0, 1) := by decide +kernel
theorem dL_law_568 : decode cL_law 568 = .ok (.ireturn, 1) := by decide +kernel
theorem dL_law_569 : decode cL_law 569 = .ok (.aload_n 1, 1) := by decide +kernel
theorem dL_law_570 : decode cL_law 570 = .ok (.aload_n 0, 1) := by decide +kernel
theorem dL_law_571 : decode cL_law 571 = .ok (.iload_n 3, 1) := by decide +kernel
theorem dL_law_572 : decode cL_law 572 = .ok (.iconst 1, 1) := by decide +kernel
theorem dL_law_573 : decode cL_law 573 = .ok (.iadd, 1) := by decide +kernel
theorem dL_law_574 : decode cL_law 574 = .ok (.iaload, 1) := by decide +kernel
theorem dL_law_575 : decode cL_law 575 = .ok (.invokevirtual 99, 3) := by decide +kernel
theorem dL_law_578 : decode cL_law 578 = .ok (.aload_n 2, 1) := by decide +kernel
theorem dL_law_579 : decode cL_law 579 = .ok (.aload_n 0, 1) := by decide +kernel
theorem dL_law_580 : decode cL_law 580 = .ok (.iload_n 3, 1) := by decide +kernel
theorem dL_law_581 : decode cL_law 581 = .ok (.iconst 1, 1) := by decide +kernel
theorem dL_law_582 : decode cL_law 582 = .ok (.iadd, 1) := by decide +kernel
theorem dL_law_583 : decode cL_law 583 = .ok (.iaload, 1) := by decide +kernel
theorem dL_law_584 : decode cL_law 584 = .ok (.invokevirtual 102, 3) := by decide +kernel
theorem dL_law_587 : decode cL_law 587 = .ok (.if_icmp .eq 28, 3) := by decide +kernel
theorem dL_law_590 : decode cL_law 590 = .ok (.iconst 0, 1) := by decide +kernel
theorem dL_law_591 : decode cL_law 591 = .ok (.ireturn, 1) := by decide +kernel
theorem dL_law_592 : decode cL_law 592 = .ok (.aload_n 1, 1) := by decide +kernel
theorem dL_law_593 : decode cL_law 593 = .ok (.aload_n 0, 1) := by decide +kernel
theorem dL_law_594 : decode cL_law 594 = .ok (.iload_n 3, 1) := by decide +kernel
theorem dL_law_595 : decode cL_law 595 = .ok (.iconst 1, 1) := by decide +kernel
theorem dL_law_596 : decode cL_law 596 = .ok (.iadd, 1) := by decide +kernel
theorem dL_law_597 : decode cL_law 597 = .ok (.iaload, 1) := by decide +kernel
theorem dL_law_598 : decode cL_law 598 = .ok (.invokevirtual 103, 3) := by decide +kernel
theorem dL_law_601 : decode cL_law 601 = .ok (.aload_n 2, 1) := by decide +kernel
theorem dL_law_602 : decode cL_law 602 = .ok (.aload_n 0, 1) := by decide +kernel
theorem dL_law_603 : decode cL_law 603 = .ok (.iload_n 3, 1) := by decide +kernel
theorem dL_law_604 : decode cL_law 604 = .ok (.iconst 1, 1) := by decide +kernel
theorem dL_law_605 : decode cL_law 605 = .ok (.iadd, 1) := by decide +kernel
theorem dL_law_606 : decode cL_law 606 = .ok (.iaload, 1) := by decide +kernel
theorem dL_law_607 : decode cL_law 607 = .ok (.invokevirtual 106, 3) := by decide +kernel
theorem dL_law_610 : decode cL_law 610 = .ok (.if_icmp .eq 5, 3) := by decide +kernel
theorem dL_law_613 : decode cL_law 613 = .ok (.iconst 0, 1) := by decide +kernel
theorem dL_law_614 : decode cL_law 614 = .ok (.ireturn, 1) := by decide +kernel
theorem dL_law_615 : decode cL_law 615 = .ok (.iinc 3 4, 3) := by decide +kernel
theorem dL_law_618 : decode cL_law 618 = .ok (.goto (-600), 3) := by decide +kernel
theorem dL_law_621 : decode cL_law 621 = .ok (.iconst 1, 1) := by decide +kernel
theorem dL_law_622 : decode cL_law 622 = .ok (.ireturn, 1) := by decide +kernel

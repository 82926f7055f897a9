theorem d_Ut_init_0 : decode prog_1_method_1_code 0 = .ok (.aload_n 0, 1) := by decide +kernel
theorem d_Ut_init_1 : decode prog_1_method_1_code 1 = .ok (.invokespecial 1, 3) := by decide +kernel
theorem d_Ut_init_4 : decode prog_1_method_1_code 4 = .ok (.iconst 1, 1) := by decide +kernel
theorem d_Ut_init_5 : decode prog_1_method_1_code 5 = .ok (.bipush 8, 2) := by decide +kernel
theorem d_Ut_init_7 : decode prog_1_method_1_code 7 = .ok (.iload_n 1, 1) := by decide +kernel
theorem d_Ut_init_8 : decode prog_1_method_1_code 8 = .ok (.invokestatic 9, 3) := by decide +kernel
theorem d_Ut_init_11 : decode prog_1_method_1_code 11 = .ok (.invokestatic 15, 3) := by decide +kernel
theorem d_Ut_init_14 : decode prog_1_method_1_code 14 = .ok (.istore_n 2, 1) := by decide +kernel
theorem d_Ut_init_15 : decode prog_1_method_1_code 15 = .ok (.aload_n 0, 1) := by decide +kernel
theorem d_Ut_init_16 : decode prog_1_method_1_code 16 = .ok (.iload_n 2, 1) := by decide +kernel
theorem d_Ut_init_17 : decode prog_1_method_1_code 17 = .ok (.anewarray 18, 3) := by decide +kernel
theorem d_Ut_init_20 : decode prog_1_method_1_code 20 = .ok (.putfield 20, 3) := by decide +kernel
theorem d_Ut_init_23 : decode prog_1_method_1_code 23 = .ok (.iconst 0, 1) := by decide +kernel
theorem d_Ut_init_24 : decode prog_1_method_1_code 24 = .ok (.istore_n 3, 1) := by decide +kernel
theorem d_Ut_init_25 : decode prog_1_method_1_code 25 = .ok (.iload_n 3, 1) := by decide +kernel
theorem d_Ut_init_26 : decode prog_1_method_1_code 26 = .ok (.iload_n 2, 1) := by decide +kernel
theorem d_Ut_init_27 : decode prog_1_method_1_code 27 = .ok (.if_icmp .ge 22, 3) := by decide +kernel
theorem d_Ut_init_30 : decode prog_1_method_1_code 30 = .ok (.aload_n 0, 1) := by decide +kernel
theorem d_Ut_init_31 : decode prog_1_method_1_code 31 = .ok (.getfield 20, 3) := by decide +kernel
theorem d_Ut_init_34 : decode prog_1_method_1_code 34 = .ok (.iload_n 3, 1) := by decide +kernel
theorem d_Ut_init_35 : decode prog_1_method_1_code 35 = .ok (.new 18, 3) := by decide +kernel
theorem d_Ut_init_38 : decode prog_1_method_1_code 38 = .ok (.dup, 1) := by decide +kernel
theorem d_Ut_init_39 : decode prog_1_method_1_code 39 = .ok (.invokespecial 24, 3) := by decide +kernel
theorem d_Ut_init_42 : decode prog_1_method_1_code 42 = .ok (.aastore, 1) := by decide +kernel
theorem d_Ut_init_43 : decode prog_1_method_1_code 43 = .ok (.iinc 3 1, 3) := by decide +kernel
theorem d_Ut_init_46 : decode prog_1_method_1_code 46 = .ok (.goto (-21), 3) := by decide +kernel
theorem d_Ut_init_49 : decode prog_1_method_1_code 49 = .ok (.aload_n 0, 1) := by decide +kernel
theorem d_Ut_init_50 : decode prog_1_method_1_code 50 = .ok (.new 25, 3) := by decide +kernel
theorem d_Ut_init_53 : decode prog_1_method_1_code 53 = .ok (.dup, 1) := by decide +kernel
theorem d_Ut_init_54 : decode prog_1_method_1_code 54 = .ok (.invokespecial 27, 3) := by decide +kernel
theorem d_Ut_init_57 : decode prog_1_method_1_code 57 = .ok (.putfield 28, 3) := by decide +kernel
theorem d_Ut_init_60 : decode prog_1_method_1_code 60 = .ok (.aload_n 0, 1) := by decide +kernel
theorem d_Ut_init_61 : decode prog_1_method_1_code 61 = .ok (.new 32, 3) := by decide +kernel
theorem d_Ut_init_64 : decode prog_1_method_1_code 64 = .ok (.dup, 1) := by decide +kernel
theorem d_Ut_init_65 : decode prog_1_method_1_code 65 = .ok (.iload_n 2, 1) := by decide +kernel
theorem d_Ut_init_66 : decode prog_1_method_1_code 66 = .ok (.invokespecial 34, 3) := by decide +kernel
theorem d_Ut_init_69 : decode prog_1_method_1_code 69 = .ok (.putfield 37, 3) := by decide +kernel
theorem d_Ut_init_72 : decode prog_1_method_1_code 72 = .ok (.aload_n 0, 1) := by decide +kernel
theorem d_Ut_init_73 : decode prog_1_method_1_code 73 = .ok (.new 41, 3) := by decide +kernel
theorem d_Ut_init_76 : decode prog_1_method_1_code 76 = .ok (.dup, 1) := by decide +kernel
theorem d_Ut_init_77 : decode prog_1_method_1_code 77 = .ok (.iload_n 2, 1) := by decide +kernel
theorem d_Ut_init_78 : decode prog_1_method_1_code 78 = .ok (.invokespecial 43, 3) := by decide +kernel
theorem d_Ut_init_81 : decode prog_1_method_1_code 81 = .ok (.putfield 44, 3) := by decide +kernel
theorem d_Ut_init_84 : decode prog_1_method_1_code 84 = .ok (.aload_n 0, 1) := by decide +kernel
theorem d_Ut_init_85 : decode prog_1_method_1_code 85 = .ok (.new 48, 3) := by decide +kernel
theorem d_Ut_init_88 : decode prog_1_method_1_code 88 = .ok (.dup, 1) := by decide +kernel
theorem d_Ut_init_89 : decode prog_1_method_1_code 89 = .ok (.iload_n 2, 1) := by decide +kernel
theorem d_Ut_init_90 : decode prog_1_method_1_code 90 = .ok (.invokespecial 50, 3) := by decide +kernel
theorem d_Ut_init_93 : decode prog_1_method_1_code 93 = .ok (.putfield 51, 3) := by decide +kernel
theorem d_Ut_init_96 : decode prog_1_method_1_code 96 = .ok (.aload_n 0, 1) := by decide +kernel
theorem d_Ut_init_97 : decode prog_1_method_1_code 97 = .ok (.bipush 64, 2) := by decide +kernel
theorem d_Ut_init_99 : decode prog_1_method_1_code 99 = .ok (.newarray .int, 2) := by decide +kernel
theorem d_Ut_init_101 : decode prog_1_method_1_code 101 = .ok (.putfield 55, 3) := by decide +kernel
theorem d_Ut_init_104 : decode prog_1_method_1_code 104 = .ok (.aload_n 0, 1) := by decide +kernel
theorem d_Ut_init_105 : decode prog_1_method_1_code 105 = .ok (.iconst 0, 1) := by decide +kernel
theorem d_Ut_init_106 : decode prog_1_method_1_code 106 = .ok (.putfield 59, 3) := by decide +kernel
theorem d_Ut_init_109 : decode prog_1_method_1_code 109 = .ok (.return_, 1) := by decide +kernel
theorem d_Ut_step_0 : decode prog_1_method_2_code 0 = .ok (.aload_n 0, 1) := by decide +kernel
theorem d_Ut_step_1 : decode prog_1_method_2_code 1 = .ok (.iload_n 1, 1) := by decide +kernel
theorem d_Ut_step_2 : decode prog_1_method_2_code 2 = .ok (.iload_n 2, 1) := by decide +kernel
theorem d_Ut_step_3 : decode prog_1_method_2_code 3 = .ok (.invokevirtual 63, 3) := by decide +kernel
theorem d_Ut_step_6 : decode prog_1_method_2_code 6 = .ok (.ifCond .eq 11, 3) := by decide +kernel
theorem d_Ut_step_9 : decode prog_1_method_2_code 9 = .ok (.iload_n 1, 1) := by decide +kernel
theorem d_Ut_step_10 : decode prog_1_method_2_code 10 = .ok (.iload_n 3, 1) := by decide +kernel
theorem d_Ut_step_11 : decode prog_1_method_2_code 11 = .ok (.invokestatic 67, 3) := by decide +kernel
theorem d_Ut_step_14 : decode prog_1_method_2_code 14 = .ok (.ifCond .ne 5, 3) := by decide +kernel
theorem d_Ut_step_17 : decode prog_1_method_2_code 17 = .ok (.iconst 0, 1) := by decide +kernel
theorem d_Ut_step_18 : decode prog_1_method_2_code 18 = .ok (.ireturn, 1) := by decide +kernel
theorem d_Ut_step_19 : decode prog_1_method_2_code 19 = .ok (.aload_n 0, 1) := by decide +kernel
theorem d_Ut_step_20 : decode prog_1_method_2_code 20 = .ok (.iconst 0, 1) := by decide +kernel
theorem d_Ut_step_21 : decode prog_1_method_2_code 21 = .ok (.iload_n 1, 1) := by decide +kernel
theorem d_Ut_step_22 : decode prog_1_method_2_code 22 = .ok (.iload_n 2, 1) := by decide +kernel
theorem d_Ut_step_23 : decode prog_1_method_2_code 23 = .ok (.iload_n 3, 1) := by decide +kernel
theorem d_Ut_step_24 : decode prog_1_method_2_code 24 = .ok (.lload 4, 2) := by decide +kernel
theorem d_Ut_step_26 : decode prog_1_method_2_code 26 = .ok (.invokevirtual 70, 3) := by decide +kernel
theorem d_Ut_step_29 : decode prog_1_method_2_code 29 = .ok (.iconst 1, 1) := by decide +kernel
theorem d_Ut_step_30 : decode prog_1_method_2_code 30 = .ok (.ireturn, 1) := by decide +kernel
theorem d_Ut_asks_0 : decode prog_1_method_3_code 0 = .ok (.aload_n 0, 1) := by decide +kernel
theorem d_Ut_asks_1 : decode prog_1_method_3_code 1 = .ok (.iload_n 1, 1) := by decide +kernel
theorem d_Ut_asks_2 : decode prog_1_method_3_code 2 = .ok (.iload_n 2, 1) := by decide +kernel
theorem d_Ut_asks_3 : decode prog_1_method_3_code 3 = .ok (.invokevirtual 63, 3) := by decide +kernel
theorem d_Ut_asks_6 : decode prog_1_method_3_code 6 = .ok (.ifCond .eq 25, 3) := by decide +kernel
theorem d_Ut_asks_9 : decode prog_1_method_3_code 9 = .ok (.iload_n 3, 1) := by decide +kernel
theorem d_Ut_asks_10 : decode prog_1_method_3_code 10 = .ok (.invokestatic 74, 3) := by decide +kernel
theorem d_Ut_asks_13 : decode prog_1_method_3_code 13 = .ok (.ifCond .eq 18, 3) := by decide +kernel
theorem d_Ut_asks_16 : decode prog_1_method_3_code 16 = .ok (.aload_n 0, 1) := by decide +kernel
theorem d_Ut_asks_17 : decode prog_1_method_3_code 17 = .ok (.getfield 28, 3) := by decide +kernel
theorem d_Ut_asks_20 : decode prog_1_method_3_code 20 = .ok (.iconst 1, 1) := by decide +kernel
theorem d_Ut_asks_21 : decode prog_1_method_3_code 21 = .ok (.iload_n 1, 1) := by decide +kernel
theorem d_Ut_asks_22 : decode prog_1_method_3_code 22 = .ok (.iload_n 2, 1) := by decide +kernel
theorem d_Ut_asks_23 : decode prog_1_method_3_code 23 = .ok (.iload_n 3, 1) := by decide +kernel
theorem d_Ut_asks_24 : decode prog_1_method_3_code 24 = .ok (.invokevirtual 78, 3) := by decide +kernel
theorem d_Ut_asks_27 : decode prog_1_method_3_code 27 = .ok (.iconst (-1), 1) := by decide +kernel
theorem d_Ut_asks_28 : decode prog_1_method_3_code 28 = .ok (.if_icmp .eq 5, 3) := by decide +kernel
theorem d_Ut_asks_31 : decode prog_1_method_3_code 31 = .ok (.iconst 0, 1) := by decide +kernel
theorem d_Ut_asks_32 : decode prog_1_method_3_code 32 = .ok (.ireturn, 1) := by decide +kernel
theorem d_Ut_asks_33 : decode prog_1_method_3_code 33 = .ok (.aload_n 0, 1) := by decide +kernel
theorem d_Ut_asks_34 : decode prog_1_method_3_code 34 = .ok (.iconst 1, 1) := by decide +kernel
theorem d_Ut_asks_35 : decode prog_1_method_3_code 35 = .ok (.iload_n 1, 1) := by decide +kernel
theorem d_Ut_asks_36 : decode prog_1_method_3_code 36 = .ok (.iload_n 2, 1) := by decide +kernel
theorem d_Ut_asks_37 : decode prog_1_method_3_code 37 = .ok (.iload_n 3, 1) := by decide +kernel
theorem d_Ut_asks_38 : decode prog_1_method_3_code 38 = .ok (.lconst 0, 1) := by decide +kernel
theorem d_Ut_asks_39 : decode prog_1_method_3_code 39 = .ok (.invokevirtual 70, 3) := by decide +kernel
theorem d_Ut_asks_42 : decode prog_1_method_3_code 42 = .ok (.iconst 1, 1) := by decide +kernel
theorem d_Ut_asks_43 : decode prog_1_method_3_code 43 = .ok (.ireturn, 1) := by decide +kernel
theorem d_Ut_throwsAt_0 : decode prog_1_method_4_code 0 = .ok (.aload_n 0, 1) := by decide +kernel
theorem d_Ut_throwsAt_1 : decode prog_1_method_4_code 1 = .ok (.iload_n 1, 1) := by decide +kernel
theorem d_Ut_throwsAt_2 : decode prog_1_method_4_code 2 = .ok (.iload_n 2, 1) := by decide +kernel
theorem d_Ut_throwsAt_3 : decode prog_1_method_4_code 3 = .ok (.invokevirtual 63, 3) := by decide +kernel
theorem d_Ut_throwsAt_6 : decode prog_1_method_4_code 6 = .ok (.ifCond .eq 18, 3) := by decide +kernel
theorem d_Ut_throwsAt_9 : decode prog_1_method_4_code 9 = .ok (.aload_n 0, 1) := by decide +kernel
theorem d_Ut_throwsAt_10 : decode prog_1_method_4_code 10 = .ok (.getfield 28, 3) := by decide +kernel
theorem d_Ut_throwsAt_13 : decode prog_1_method_4_code 13 = .ok (.iconst 2, 1) := by decide +kernel
theorem d_Ut_throwsAt_14 : decode prog_1_method_4_code 14 = .ok (.iload_n 1, 1) := by decide +kernel
theorem d_Ut_throwsAt_15 : decode prog_1_method_4_code 15 = .ok (.iload_n 2, 1) := by decide +kernel
theorem d_Ut_throwsAt_16 : decode prog_1_method_4_code 16 = .ok (.iconst 0, 1) := by decide +kernel
theorem d_Ut_throwsAt_17 : decode prog_1_method_4_code 17 = .ok (.invokevirtual 78, 3) := by decide +kernel
theorem d_Ut_throwsAt_20 : decode prog_1_method_4_code 20 = .ok (.iconst (-1), 1) := by decide +kernel
theorem d_Ut_throwsAt_21 : decode prog_1_method_4_code 21 = .ok (.if_icmp .eq 5, 3) := by decide +kernel
theorem d_Ut_throwsAt_24 : decode prog_1_method_4_code 24 = .ok (.iconst 0, 1) := by decide +kernel
theorem d_Ut_throwsAt_25 : decode prog_1_method_4_code 25 = .ok (.ireturn, 1) := by decide +kernel
theorem d_Ut_throwsAt_26 : decode prog_1_method_4_code 26 = .ok (.aload_n 0, 1) := by decide +kernel
theorem d_Ut_throwsAt_27 : decode prog_1_method_4_code 27 = .ok (.iconst 2, 1) := by decide +kernel
theorem d_Ut_throwsAt_28 : decode prog_1_method_4_code 28 = .ok (.iload_n 1, 1) := by decide +kernel
theorem d_Ut_throwsAt_29 : decode prog_1_method_4_code 29 = .ok (.iload_n 2, 1) := by decide +kernel
theorem d_Ut_throwsAt_30 : decode prog_1_method_4_code 30 = .ok (.iconst 0, 1) := by decide +kernel
theorem d_Ut_throwsAt_31 : decode prog_1_method_4_code 31 = .ok (.lconst 0, 1) := by decide +kernel
theorem d_Ut_throwsAt_32 : decode prog_1_method_4_code 32 = .ok (.invokevirtual 70, 3) := by decide +kernel
theorem d_Ut_throwsAt_35 : decode prog_1_method_4_code 35 = .ok (.iconst 1, 1) := by decide +kernel
theorem d_Ut_throwsAt_36 : decode prog_1_method_4_code 36 = .ok (.ireturn, 1) := by decide +kernel
theorem d_Ut_safe_0 : decode prog_1_method_5_code 0 = .ok (.aload_n 0, 1) := by decide +kernel
theorem d_Ut_safe_1 : decode prog_1_method_5_code 1 = .ok (.getfield 51, 3) := by decide +kernel
theorem d_Ut_safe_4 : decode prog_1_method_5_code 4 = .ok (.iload_n 1, 1) := by decide +kernel
theorem d_Ut_safe_5 : decode prog_1_method_5_code 5 = .ok (.invokevirtual 82, 3) := by decide +kernel
theorem d_Ut_safe_8 : decode prog_1_method_5_code 8 = .ok (.ifCond .eq 10, 3) := by decide +kernel
theorem d_Ut_safe_11 : decode prog_1_method_5_code 11 = .ok (.aload_n 0, 1) := by decide +kernel
theorem d_Ut_safe_12 : decode prog_1_method_5_code 12 = .ok (.getfield 59, 3) := by decide +kernel
theorem d_Ut_safe_15 : decode prog_1_method_5_code 15 = .ok (.ifCond .eq 5, 3) := by decide +kernel
theorem d_Ut_safe_18 : decode prog_1_method_5_code 18 = .ok (.iconst 0, 1) := by decide +kernel
theorem d_Ut_safe_19 : decode prog_1_method_5_code 19 = .ok (.ireturn, 1) := by decide +kernel
theorem d_Ut_safe_20 : decode prog_1_method_5_code 20 = .ok (.aload_n 0, 1) := by decide +kernel
theorem d_Ut_safe_21 : decode prog_1_method_5_code 21 = .ok (.getfield 51, 3) := by decide +kernel
theorem d_Ut_safe_24 : decode prog_1_method_5_code 24 = .ok (.getfield 85, 3) := by decide +kernel
theorem d_Ut_safe_27 : decode prog_1_method_5_code 27 = .ok (.iload_n 1, 1) := by decide +kernel
theorem d_Ut_safe_28 : decode prog_1_method_5_code 28 = .ok (.lload_n 2, 1) := by decide +kernel
theorem d_Ut_safe_29 : decode prog_1_method_5_code 29 = .ok (.lastore, 1) := by decide +kernel
theorem d_Ut_safe_30 : decode prog_1_method_5_code 30 = .ok (.iconst 1, 1) := by decide +kernel
theorem d_Ut_safe_31 : decode prog_1_method_5_code 31 = .ok (.ireturn, 1) := by decide +kernel
theorem d_Ut_bar_0 : decode prog_1_method_6_code 0 = .ok (.iload_n 1, 1) := by decide +kernel
theorem d_Ut_bar_1 : decode prog_1_method_6_code 1 = .ok (.invokestatic 74, 3) := by decide +kernel
theorem d_Ut_bar_4 : decode prog_1_method_6_code 4 = .ok (.ifCond .eq 20, 3) := by decide +kernel
theorem d_Ut_bar_7 : decode prog_1_method_6_code 7 = .ok (.iload_n 2, 1) := by decide +kernel
theorem d_Ut_bar_8 : decode prog_1_method_6_code 8 = .ok (.ifCond .lt 16, 3) := by decide +kernel
theorem d_Ut_bar_11 : decode prog_1_method_6_code 11 = .ok (.iload_n 2, 1) := by decide +kernel
theorem d_Ut_bar_12 : decode prog_1_method_6_code 12 = .ok (.bipush 64, 2) := by decide +kernel
theorem d_Ut_bar_14 : decode prog_1_method_6_code 14 = .ok (.if_icmp .ge 10, 3) := by decide +kernel
theorem d_Ut_bar_17 : decode prog_1_method_6_code 17 = .ok (.aload_n 0, 1) := by decide +kernel
theorem d_Ut_bar_18 : decode prog_1_method_6_code 18 = .ok (.getfield 59, 3) := by decide +kernel
theorem d_Ut_bar_21 : decode prog_1_method_6_code 21 = .ok (.ifCond .eq 5, 3) := by decide +kernel
theorem d_Ut_bar_24 : decode prog_1_method_6_code 24 = .ok (.iconst 0, 1) := by decide +kernel
theorem d_Ut_bar_25 : decode prog_1_method_6_code 25 = .ok (.ireturn, 1) := by decide +kernel
theorem d_Ut_bar_26 : decode prog_1_method_6_code 26 = .ok (.iload_n 2, 1) := by decide +kernel
theorem d_Ut_bar_27 : decode prog_1_method_6_code 27 = .ok (.aload_n 0, 1) := by decide +kernel
theorem d_Ut_bar_28 : decode prog_1_method_6_code 28 = .ok (.getfield 51, 3) := by decide +kernel
theorem d_Ut_bar_31 : decode prog_1_method_6_code 31 = .ok (.getfield 89, 3) := by decide +kernel
theorem d_Ut_bar_34 : decode prog_1_method_6_code 34 = .ok (.if_icmp .lt 16, 3) := by decide +kernel
theorem d_Ut_bar_37 : decode prog_1_method_6_code 37 = .ok (.aload_n 0, 1) := by decide +kernel
theorem d_Ut_bar_38 : decode prog_1_method_6_code 38 = .ok (.getfield 55, 3) := by decide +kernel
theorem d_Ut_bar_41 : decode prog_1_method_6_code 41 = .ok (.iload_n 2, 1) := by decide +kernel
theorem d_Ut_bar_42 : decode prog_1_method_6_code 42 = .ok (.iaload, 1) := by decide +kernel
theorem d_Ut_bar_43 : decode prog_1_method_6_code 43 = .ok (.iload_n 1, 1) := by decide +kernel
theorem d_Ut_bar_44 : decode prog_1_method_6_code 44 = .ok (.invokestatic 93, 3) := by decide +kernel
theorem d_Ut_bar_47 : decode prog_1_method_6_code 47 = .ok (.ifCond .eq 5, 3) := by decide +kernel
theorem d_Ut_bar_50 : decode prog_1_method_6_code 50 = .ok (.iconst 0, 1) := by decide +kernel
theorem d_Ut_bar_51 : decode prog_1_method_6_code 51 = .ok (.ireturn, 1) := by decide +kernel
theorem d_Ut_bar_52 : decode prog_1_method_6_code 52 = .ok (.aload_n 0, 1) := by decide +kernel
theorem d_Ut_bar_53 : decode prog_1_method_6_code 53 = .ok (.getfield 55, 3) := by decide +kernel
theorem d_Ut_bar_56 : decode prog_1_method_6_code 56 = .ok (.iload_n 2, 1) := by decide +kernel
theorem d_Ut_bar_57 : decode prog_1_method_6_code 57 = .ok (.dup2, 1) := by decide +kernel
theorem d_Ut_bar_58 : decode prog_1_method_6_code 58 = .ok (.iaload, 1) := by decide +kernel
theorem d_Ut_bar_59 : decode prog_1_method_6_code 59 = .ok (.iconst 1, 1) := by decide +kernel
theorem d_Ut_bar_60 : decode prog_1_method_6_code 60 = .ok (.iload_n 1, 1) := by decide +kernel
theorem d_Ut_bar_61 : decode prog_1_method_6_code 61 = .ok (.ishl, 1) := by decide +kernel
theorem d_Ut_bar_62 : decode prog_1_method_6_code 62 = .ok (.ior, 1) := by decide +kernel
theorem d_Ut_bar_63 : decode prog_1_method_6_code 63 = .ok (.iastore, 1) := by decide +kernel
theorem d_Ut_bar_64 : decode prog_1_method_6_code 64 = .ok (.iconst 1, 1) := by decide +kernel
theorem d_Ut_bar_65 : decode prog_1_method_6_code 65 = .ok (.ireturn, 1) := by decide +kernel
theorem d_Ut_play_0 : decode prog_1_method_7_code 0 = .ok (.iload_n 3, 1) := by decide +kernel
theorem d_Ut_play_1 : decode prog_1_method_7_code 1 = .ok (.ifCond .lt 16, 3) := by decide +kernel
theorem d_Ut_play_4 : decode prog_1_method_7_code 4 = .ok (.iload_n 3, 1) := by decide +kernel
theorem d_Ut_play_5 : decode prog_1_method_7_code 5 = .ok (.bipush 64, 2) := by decide +kernel
theorem d_Ut_play_7 : decode prog_1_method_7_code 7 = .ok (.if_icmp .gt 10, 3) := by decide +kernel
theorem d_Ut_play_10 : decode prog_1_method_7_code 10 = .ok (.aload_n 0, 1) := by decide +kernel
theorem d_Ut_play_11 : decode prog_1_method_7_code 11 = .ok (.getfield 59, 3) := by decide +kernel
theorem d_Ut_play_14 : decode prog_1_method_7_code 14 = .ok (.ifCond .eq 5, 3) := by decide +kernel
theorem d_Ut_play_17 : decode prog_1_method_7_code 17 = .ok (.iconst (-1), 1) := by decide +kernel
theorem d_Ut_play_18 : decode prog_1_method_7_code 18 = .ok (.ireturn, 1) := by decide +kernel
theorem d_Ut_play_19 : decode prog_1_method_7_code 19 = .ok (.aload_n 0, 1) := by decide +kernel
theorem d_Ut_play_20 : decode prog_1_method_7_code 20 = .ok (.getfield 37, 3) := by decide +kernel
theorem d_Ut_play_23 : decode prog_1_method_7_code 23 = .ok (.lload_n 1, 1) := by decide +kernel
theorem d_Ut_play_24 : decode prog_1_method_7_code 24 = .ok (.putfield 96, 3) := by decide +kernel
theorem d_Ut_play_27 : decode prog_1_method_7_code 27 = .ok (.iconst 0, 1) := by decide +kernel
theorem d_Ut_play_28 : decode prog_1_method_7_code 28 = .ok (.istore 4, 2) := by decide +kernel
theorem d_Ut_play_30 : decode prog_1_method_7_code 30 = .ok (.iload 4, 2) := by decide +kernel
theorem d_Ut_play_32 : decode prog_1_method_7_code 32 = .ok (.iload_n 3, 1) := by decide +kernel
theorem d_Ut_play_33 : decode prog_1_method_7_code 33 = .ok (.if_icmp .ge 32, 3) := by decide +kernel
theorem d_Ut_play_36 : decode prog_1_method_7_code 36 = .ok (.aload_n 0, 1) := by decide +kernel
theorem d_Ut_play_37 : decode prog_1_method_7_code 37 = .ok (.getfield 51, 3) := by decide +kernel
theorem d_Ut_play_40 : decode prog_1_method_7_code 40 = .ok (.getfield 89, 3) := by decide +kernel
theorem d_Ut_play_43 : decode prog_1_method_7_code 43 = .ok (.bipush 64, 2) := by decide +kernel
theorem d_Ut_play_45 : decode prog_1_method_7_code 45 = .ok (.if_icmp .ge 20, 3) := by decide +kernel
theorem d_Ut_play_48 : decode prog_1_method_7_code 48 = .ok (.aload_n 0, 1) := by decide +kernel
theorem d_Ut_play_49 : decode prog_1_method_7_code 49 = .ok (.invokevirtual 100, 3) := by decide +kernel
theorem d_Ut_play_52 : decode prog_1_method_7_code 52 = .ok (.ifCond .le 13, 3) := by decide +kernel
theorem d_Ut_play_55 : decode prog_1_method_7_code 55 = .ok (.aload_n 0, 1) := by decide +kernel
theorem d_Ut_play_56 : decode prog_1_method_7_code 56 = .ok (.invokevirtual 104, 3) := by decide +kernel
theorem d_Ut_play_59 : decode prog_1_method_7_code 59 = .ok (.iinc 4 1, 3) := by decide +kernel
theorem d_Ut_play_62 : decode prog_1_method_7_code 62 = .ok (.goto (-32), 3) := by decide +kernel
theorem d_Ut_play_65 : decode prog_1_method_7_code 65 = .ok (.iload 4, 2) := by decide +kernel
theorem d_Ut_play_67 : decode prog_1_method_7_code 67 = .ok (.ireturn, 1) := by decide +kernel
theorem d_Ut_output_0 : decode prog_1_method_8_code 0 = .ok (.aload_n 0, 1) := by decide +kernel
theorem d_Ut_output_1 : decode prog_1_method_8_code 1 = .ok (.getfield 51, 3) := by decide +kernel
theorem d_Ut_output_4 : decode prog_1_method_8_code 4 = .ok (.iload_n 1, 1) := by decide +kernel
theorem d_Ut_output_5 : decode prog_1_method_8_code 5 = .ok (.iload_n 2, 1) := by decide +kernel
theorem d_Ut_output_6 : decode prog_1_method_8_code 6 = .ok (.invokevirtual 107, 3) := by decide +kernel
theorem d_Ut_output_9 : decode prog_1_method_8_code 9 = .ok (.lreturn, 1) := by decide +kernel
theorem d_Ut_owner_0 : decode prog_1_method_9_code 0 = .ok (.aload_n 0, 1) := by decide +kernel
theorem d_Ut_owner_1 : decode prog_1_method_9_code 1 = .ok (.getfield 51, 3) := by decide +kernel
theorem d_Ut_owner_4 : decode prog_1_method_9_code 4 = .ok (.iload_n 1, 1) := by decide +kernel
theorem d_Ut_owner_5 : decode prog_1_method_9_code 5 = .ok (.iload_n 2, 1) := by decide +kernel
theorem d_Ut_owner_6 : decode prog_1_method_9_code 6 = .ok (.invokevirtual 111, 3) := by decide +kernel
theorem d_Ut_owner_9 : decode prog_1_method_9_code 9 = .ok (.ireturn, 1) := by decide +kernel
theorem d_Ut_state_0 : decode prog_1_method_10_code 0 = .ok (.aload_n 0, 1) := by decide +kernel
theorem d_Ut_state_1 : decode prog_1_method_10_code 1 = .ok (.iload_n 1, 1) := by decide +kernel
theorem d_Ut_state_2 : decode prog_1_method_10_code 2 = .ok (.invokevirtual 114, 3) := by decide +kernel
theorem d_Ut_state_5 : decode prog_1_method_10_code 5 = .ok (.ifCond .eq 11, 3) := by decide +kernel
theorem d_Ut_state_8 : decode prog_1_method_10_code 8 = .ok (.aload_n 0, 1) := by decide +kernel
theorem d_Ut_state_9 : decode prog_1_method_10_code 9 = .ok (.iload_n 1, 1) := by decide +kernel
theorem d_Ut_state_10 : decode prog_1_method_10_code 10 = .ok (.invokevirtual 117, 3) := by decide +kernel
theorem d_Ut_state_13 : decode prog_1_method_10_code 13 = .ok (.goto 4, 3) := by decide +kernel
theorem d_Ut_state_16 : decode prog_1_method_10_code 16 = .ok (.iconst (-1), 1) := by decide +kernel
theorem d_Ut_state_17 : decode prog_1_method_10_code 17 = .ok (.ireturn, 1) := by decide +kernel
theorem d_Ut_restart_0 : decode prog_1_method_11_code 0 = .ok (.aload_n 0, 1) := by decide +kernel
theorem d_Ut_restart_1 : decode prog_1_method_11_code 1 = .ok (.iload_n 1, 1) := by decide +kernel
theorem d_Ut_restart_2 : decode prog_1_method_11_code 2 = .ok (.invokevirtual 114, 3) := by decide +kernel
theorem d_Ut_restart_5 : decode prog_1_method_11_code 5 = .ok (.ifCond .eq 12, 3) := by decide +kernel
theorem d_Ut_restart_8 : decode prog_1_method_11_code 8 = .ok (.aload_n 0, 1) := by decide +kernel
theorem d_Ut_restart_9 : decode prog_1_method_11_code 9 = .ok (.iload_n 1, 1) := by decide +kernel
theorem d_Ut_restart_10 : decode prog_1_method_11_code 10 = .ok (.invokevirtual 117, 3) := by decide +kernel
theorem d_Ut_restart_13 : decode prog_1_method_11_code 13 = .ok (.iconst 2, 1) := by decide +kernel
theorem d_Ut_restart_14 : decode prog_1_method_11_code 14 = .ok (.if_icmp .eq 5, 3) := by decide +kernel
theorem d_Ut_restart_17 : decode prog_1_method_11_code 17 = .ok (.iconst 0, 1) := by decide +kernel
theorem d_Ut_restart_18 : decode prog_1_method_11_code 18 = .ok (.ireturn, 1) := by decide +kernel
theorem d_Ut_restart_19 : decode prog_1_method_11_code 19 = .ok (.aload_n 0, 1) := by decide +kernel
theorem d_Ut_restart_20 : decode prog_1_method_11_code 20 = .ok (.getfield 20, 3) := by decide +kernel
theorem d_Ut_restart_23 : decode prog_1_method_11_code 23 = .ok (.iload_n 1, 1) := by decide +kernel
theorem d_Ut_restart_24 : decode prog_1_method_11_code 24 = .ok (.aaload, 1) := by decide +kernel
theorem d_Ut_restart_25 : decode prog_1_method_11_code 25 = .ok (.iconst 0, 1) := by decide +kernel
theorem d_Ut_restart_26 : decode prog_1_method_11_code 26 = .ok (.putfield 121, 3) := by decide +kernel
theorem d_Ut_restart_29 : decode prog_1_method_11_code 29 = .ok (.iconst 1, 1) := by decide +kernel
theorem d_Ut_restart_30 : decode prog_1_method_11_code 30 = .ok (.ireturn, 1) := by decide +kernel
theorem d_Ut_held_0 : decode prog_1_method_12_code 0 = .ok (.aload_n 0, 1) := by decide +kernel
theorem d_Ut_held_1 : decode prog_1_method_12_code 1 = .ok (.iload_n 1, 1) := by decide +kernel
theorem d_Ut_held_2 : decode prog_1_method_12_code 2 = .ok (.invokevirtual 114, 3) := by decide +kernel
theorem d_Ut_held_5 : decode prog_1_method_12_code 5 = .ok (.ifCond .eq 24, 3) := by decide +kernel
theorem d_Ut_held_8 : decode prog_1_method_12_code 8 = .ok (.aload_n 0, 1) := by decide +kernel
theorem d_Ut_held_9 : decode prog_1_method_12_code 9 = .ok (.iload_n 1, 1) := by decide +kernel
theorem d_Ut_held_10 : decode prog_1_method_12_code 10 = .ok (.invokevirtual 117, 3) := by decide +kernel
theorem d_Ut_held_13 : decode prog_1_method_12_code 13 = .ok (.iconst 2, 1) := by decide +kernel
theorem d_Ut_held_14 : decode prog_1_method_12_code 14 = .ok (.if_icmp .ne 15, 3) := by decide +kernel
theorem d_Ut_held_17 : decode prog_1_method_12_code 17 = .ok (.aload_n 0, 1) := by decide +kernel
theorem d_Ut_held_18 : decode prog_1_method_12_code 18 = .ok (.getfield 20, 3) := by decide +kernel
theorem d_Ut_held_21 : decode prog_1_method_12_code 21 = .ok (.iload_n 1, 1) := by decide +kernel
theorem d_Ut_held_22 : decode prog_1_method_12_code 22 = .ok (.aaload, 1) := by decide +kernel
theorem d_Ut_held_23 : decode prog_1_method_12_code 23 = .ok (.getfield 124, 3) := by decide +kernel
theorem d_Ut_held_26 : decode prog_1_method_12_code 26 = .ok (.goto 4, 3) := by decide +kernel
theorem d_Ut_held_29 : decode prog_1_method_12_code 29 = .ok (.iconst (-1), 1) := by decide +kernel
theorem d_Ut_held_30 : decode prog_1_method_12_code 30 = .ok (.ireturn, 1) := by decide +kernel
theorem d_Ut_log_0 : decode prog_1_method_13_code 0 = .ok (.aload_n 0, 1) := by decide +kernel
theorem d_Ut_log_1 : decode prog_1_method_13_code 1 = .ok (.getfield 44, 3) := by decide +kernel
theorem d_Ut_log_4 : decode prog_1_method_13_code 4 = .ok (.iload_n 1, 1) := by decide +kernel
theorem d_Ut_log_5 : decode prog_1_method_13_code 5 = .ok (.iload_n 2, 1) := by decide +kernel
theorem d_Ut_log_6 : decode prog_1_method_13_code 6 = .ok (.invokevirtual 127, 3) := by decide +kernel
theorem d_Ut_log_9 : decode prog_1_method_13_code 9 = .ok (.ireturn, 1) := by decide +kernel
theorem d_Ut_count_0 : decode prog_1_method_14_code 0 = .ok (.iload_n 1, 1) := by decide +kernel
theorem d_Ut_count_1 : decode prog_1_method_14_code 1 = .ok (.tableswitch 60 0 3 #[31, 39, 47, 55], 31) := by decide +kernel
theorem d_Ut_count_32 : decode prog_1_method_14_code 32 = .ok (.aload_n 0, 1) := by decide +kernel
theorem d_Ut_count_33 : decode prog_1_method_14_code 33 = .ok (.getfield 51, 3) := by decide +kernel
theorem d_Ut_count_36 : decode prog_1_method_14_code 36 = .ok (.getfield 89, 3) := by decide +kernel
theorem d_Ut_count_39 : decode prog_1_method_14_code 39 = .ok (.ireturn, 1) := by decide +kernel
theorem d_Ut_count_40 : decode prog_1_method_14_code 40 = .ok (.aload_n 0, 1) := by decide +kernel
theorem d_Ut_count_41 : decode prog_1_method_14_code 41 = .ok (.getfield 44, 3) := by decide +kernel
theorem d_Ut_count_44 : decode prog_1_method_14_code 44 = .ok (.getfield 130, 3) := by decide +kernel
theorem d_Ut_count_47 : decode prog_1_method_14_code 47 = .ok (.ireturn, 1) := by decide +kernel
theorem d_Ut_count_48 : decode prog_1_method_14_code 48 = .ok (.aload_n 0, 1) := by decide +kernel
theorem d_Ut_count_49 : decode prog_1_method_14_code 49 = .ok (.getfield 28, 3) := by decide +kernel
theorem d_Ut_count_52 : decode prog_1_method_14_code 52 = .ok (.getfield 133, 3) := by decide +kernel
theorem d_Ut_count_55 : decode prog_1_method_14_code 55 = .ok (.ireturn, 1) := by decide +kernel
theorem d_Ut_count_56 : decode prog_1_method_14_code 56 = .ok (.aload_n 0, 1) := by decide +kernel
theorem d_Ut_count_57 : decode prog_1_method_14_code 57 = .ok (.invokevirtual 100, 3) := by decide +kernel
theorem d_Ut_count_60 : decode prog_1_method_14_code 60 = .ok (.ireturn, 1) := by decide +kernel
theorem d_Ut_count_61 : decode prog_1_method_14_code 61 = .ok (.aload_n 0, 1) := by decide +kernel
theorem d_Ut_count_62 : decode prog_1_method_14_code 62 = .ok (.iload_n 1, 1) := by decide +kernel
theorem d_Ut_count_63 : decode prog_1_method_14_code 63 = .ok (.iconst 4, 1) := by decide +kernel
theorem d_Ut_count_64 : decode prog_1_method_14_code 64 = .ok (.isub, 1) := by decide +kernel
theorem d_Ut_count_65 : decode prog_1_method_14_code 65 = .ok (.invokevirtual 114, 3) := by decide +kernel
theorem d_Ut_count_68 : decode prog_1_method_14_code 68 = .ok (.ifCond .eq 17, 3) := by decide +kernel
theorem d_Ut_count_71 : decode prog_1_method_14_code 71 = .ok (.aload_n 0, 1) := by decide +kernel
theorem d_Ut_count_72 : decode prog_1_method_14_code 72 = .ok (.getfield 20, 3) := by decide +kernel
theorem d_Ut_count_75 : decode prog_1_method_14_code 75 = .ok (.iload_n 1, 1) := by decide +kernel
theorem d_Ut_count_76 : decode prog_1_method_14_code 76 = .ok (.iconst 4, 1) := by decide +kernel
theorem d_Ut_count_77 : decode prog_1_method_14_code 77 = .ok (.isub, 1) := by decide +kernel
theorem d_Ut_count_78 : decode prog_1_method_14_code 78 = .ok (.aaload, 1) := by decide +kernel
theorem d_Ut_count_79 : decode prog_1_method_14_code 79 = .ok (.getfield 134, 3) := by decide +kernel
theorem d_Ut_count_82 : decode prog_1_method_14_code 82 = .ok (.goto 4, 3) := by decide +kernel
theorem d_Ut_count_85 : decode prog_1_method_14_code 85 = .ok (.iconst (-1), 1) := by decide +kernel
theorem d_Ut_count_86 : decode prog_1_method_14_code 86 = .ok (.ireturn, 1) := by decide +kernel
theorem d_Ut_close_0 : decode prog_1_method_15_code 0 = .ok (.aload_n 0, 1) := by decide +kernel
theorem d_Ut_close_1 : decode prog_1_method_15_code 1 = .ok (.getfield 59, 3) := by decide +kernel
theorem d_Ut_close_4 : decode prog_1_method_15_code 4 = .ok (.ifCond .eq 5, 3) := by decide +kernel
theorem d_Ut_close_7 : decode prog_1_method_15_code 7 = .ok (.iconst 0, 1) := by decide +kernel
theorem d_Ut_close_8 : decode prog_1_method_15_code 8 = .ok (.ireturn, 1) := by decide +kernel
theorem d_Ut_close_9 : decode prog_1_method_15_code 9 = .ok (.iconst 0, 1) := by decide +kernel
theorem d_Ut_close_10 : decode prog_1_method_15_code 10 = .ok (.istore_n 1, 1) := by decide +kernel
theorem d_Ut_close_11 : decode prog_1_method_15_code 11 = .ok (.iconst 0, 1) := by decide +kernel
theorem d_Ut_close_12 : decode prog_1_method_15_code 12 = .ok (.istore_n 2, 1) := by decide +kernel
theorem d_Ut_close_13 : decode prog_1_method_15_code 13 = .ok (.iload_n 2, 1) := by decide +kernel
theorem d_Ut_close_14 : decode prog_1_method_15_code 14 = .ok (.aload_n 0, 1) := by decide +kernel
theorem d_Ut_close_15 : decode prog_1_method_15_code 15 = .ok (.getfield 20, 3) := by decide +kernel
theorem d_Ut_close_18 : decode prog_1_method_15_code 18 = .ok (.arraylength, 1) := by decide +kernel
theorem d_Ut_close_19 : decode prog_1_method_15_code 19 = .ok (.if_icmp .ge 21, 3) := by decide +kernel
theorem d_Ut_close_22 : decode prog_1_method_15_code 22 = .ok (.aload_n 0, 1) := by decide +kernel
theorem d_Ut_close_23 : decode prog_1_method_15_code 23 = .ok (.iload_n 2, 1) := by decide +kernel
theorem d_Ut_close_24 : decode prog_1_method_15_code 24 = .ok (.invokevirtual 117, 3) := by decide +kernel
theorem d_Ut_close_27 : decode prog_1_method_15_code 27 = .ok (.iconst 3, 1) := by decide +kernel
theorem d_Ut_close_28 : decode prog_1_method_15_code 28 = .ok (.if_icmp .eq 6, 3) := by decide +kernel
theorem d_Ut_close_31 : decode prog_1_method_15_code 31 = .ok (.iinc 1 1, 3) := by decide +kernel
theorem d_Ut_close_34 : decode prog_1_method_15_code 34 = .ok (.iinc 2 1, 3) := by decide +kernel
theorem d_Ut_close_37 : decode prog_1_method_15_code 37 = .ok (.goto (-24), 3) := by decide +kernel
theorem d_Ut_close_40 : decode prog_1_method_15_code 40 = .ok (.aload_n 0, 1) := by decide +kernel
theorem d_Ut_close_41 : decode prog_1_method_15_code 41 = .ok (.getfield 51, 3) := by decide +kernel
theorem d_Ut_close_44 : decode prog_1_method_15_code 44 = .ok (.invokevirtual 137, 3) := by decide +kernel
theorem d_Ut_close_47 : decode prog_1_method_15_code 47 = .ok (.aload_n 0, 1) := by decide +kernel
theorem d_Ut_close_48 : decode prog_1_method_15_code 48 = .ok (.iconst 1, 1) := by decide +kernel
theorem d_Ut_close_49 : decode prog_1_method_15_code 49 = .ok (.putfield 59, 3) := by decide +kernel
theorem d_Ut_close_52 : decode prog_1_method_15_code 52 = .ok (.iload_n 1, 1) := by decide +kernel
theorem d_Ut_close_53 : decode prog_1_method_15_code 53 = .ok (.ireturn, 1) := by decide +kernel
theorem d_Ut_isUnit_0 : decode prog_1_method_16_code 0 = .ok (.iload_n 1, 1) := by decide +kernel
theorem d_Ut_isUnit_1 : decode prog_1_method_16_code 1 = .ok (.ifCond .lt 16, 3) := by decide +kernel
theorem d_Ut_isUnit_4 : decode prog_1_method_16_code 4 = .ok (.iload_n 1, 1) := by decide +kernel
theorem d_Ut_isUnit_5 : decode prog_1_method_16_code 5 = .ok (.aload_n 0, 1) := by decide +kernel
theorem d_Ut_isUnit_6 : decode prog_1_method_16_code 6 = .ok (.getfield 20, 3) := by decide +kernel
theorem d_Ut_isUnit_9 : decode prog_1_method_16_code 9 = .ok (.arraylength, 1) := by decide +kernel
theorem d_Ut_isUnit_10 : decode prog_1_method_16_code 10 = .ok (.if_icmp .ge 7, 3) := by decide +kernel
theorem d_Ut_isUnit_13 : decode prog_1_method_16_code 13 = .ok (.iconst 1, 1) := by decide +kernel
theorem d_Ut_isUnit_14 : decode prog_1_method_16_code 14 = .ok (.goto 4, 3) := by decide +kernel
theorem d_Ut_isUnit_17 : decode prog_1_method_16_code 17 = .ok (.iconst 0, 1) := by decide +kernel
theorem d_Ut_isUnit_18 : decode prog_1_method_16_code 18 = .ok (.ireturn, 1) := by decide +kernel
theorem d_Ut_isWay_0 : decode prog_1_method_17_code 0 = .ok (.iload_n 0, 1) := by decide +kernel
theorem d_Ut_isWay_1 : decode prog_1_method_17_code 1 = .ok (.ifCond .lt 13, 3) := by decide +kernel
theorem d_Ut_isWay_4 : decode prog_1_method_17_code 4 = .ok (.iload_n 0, 1) := by decide +kernel
theorem d_Ut_isWay_5 : decode prog_1_method_17_code 5 = .ok (.bipush 16, 2) := by decide +kernel
theorem d_Ut_isWay_7 : decode prog_1_method_17_code 7 = .ok (.if_icmp .ge 7, 3) := by decide +kernel
theorem d_Ut_isWay_10 : decode prog_1_method_17_code 10 = .ok (.iconst 1, 1) := by decide +kernel
theorem d_Ut_isWay_11 : decode prog_1_method_17_code 11 = .ok (.goto 4, 3) := by decide +kernel
theorem d_Ut_isWay_14 : decode prog_1_method_17_code 14 = .ok (.iconst 0, 1) := by decide +kernel
theorem d_Ut_isWay_15 : decode prog_1_method_17_code 15 = .ok (.ireturn, 1) := by decide +kernel
theorem d_Ut_isOutputOf_0 : decode prog_1_method_18_code 0 = .ok (.iload_n 1, 1) := by decide +kernel
theorem d_Ut_isOutputOf_1 : decode prog_1_method_18_code 1 = .ok (.ifCond .lt 14, 3) := by decide +kernel
theorem d_Ut_isOutputOf_4 : decode prog_1_method_18_code 4 = .ok (.iload_n 1, 1) := by decide +kernel
theorem d_Ut_isOutputOf_5 : decode prog_1_method_18_code 5 = .ok (.iconst 4, 1) := by decide +kernel
theorem d_Ut_isOutputOf_6 : decode prog_1_method_18_code 6 = .ok (.idiv, 1) := by decide +kernel
theorem d_Ut_isOutputOf_7 : decode prog_1_method_18_code 7 = .ok (.iload_n 0, 1) := by decide +kernel
theorem d_Ut_isOutputOf_8 : decode prog_1_method_18_code 8 = .ok (.if_icmp .ne 7, 3) := by decide +kernel
theorem d_Ut_isOutputOf_11 : decode prog_1_method_18_code 11 = .ok (.iconst 1, 1) := by decide +kernel
theorem d_Ut_isOutputOf_12 : decode prog_1_method_18_code 12 = .ok (.goto 4, 3) := by decide +kernel
theorem d_Ut_isOutputOf_15 : decode prog_1_method_18_code 15 = .ok (.iconst 0, 1) := by decide +kernel
theorem d_Ut_isOutputOf_16 : decode prog_1_method_18_code 16 = .ok (.ireturn, 1) := by decide +kernel
theorem d_Ut_hasWay_0 : decode prog_1_method_19_code 0 = .ok (.iload_n 0, 1) := by decide +kernel
theorem d_Ut_hasWay_1 : decode prog_1_method_19_code 1 = .ok (.iload_n 1, 1) := by decide +kernel
theorem d_Ut_hasWay_2 : decode prog_1_method_19_code 2 = .ok (.ishr, 1) := by decide +kernel
theorem d_Ut_hasWay_3 : decode prog_1_method_19_code 3 = .ok (.iconst 1, 1) := by decide +kernel
theorem d_Ut_hasWay_4 : decode prog_1_method_19_code 4 = .ok (.iand, 1) := by decide +kernel
theorem d_Ut_hasWay_5 : decode prog_1_method_19_code 5 = .ok (.ifCond .eq 7, 3) := by decide +kernel
theorem d_Ut_hasWay_8 : decode prog_1_method_19_code 8 = .ok (.iconst 1, 1) := by decide +kernel
theorem d_Ut_hasWay_9 : decode prog_1_method_19_code 9 = .ok (.goto 4, 3) := by decide +kernel
theorem d_Ut_hasWay_12 : decode prog_1_method_19_code 12 = .ok (.iconst 0, 1) := by decide +kernel
theorem d_Ut_hasWay_13 : decode prog_1_method_19_code 13 = .ok (.ireturn, 1) := by decide +kernel
theorem d_Ut_takesEntry_0 : decode prog_1_method_20_code 0 = .ok (.aload_n 0, 1) := by decide +kernel
theorem d_Ut_takesEntry_1 : decode prog_1_method_20_code 1 = .ok (.iload_n 1, 1) := by decide +kernel
theorem d_Ut_takesEntry_2 : decode prog_1_method_20_code 2 = .ok (.invokevirtual 114, 3) := by decide +kernel
theorem d_Ut_takesEntry_5 : decode prog_1_method_20_code 5 = .ok (.ifCond .eq 51, 3) := by decide +kernel
theorem d_Ut_takesEntry_8 : decode prog_1_method_20_code 8 = .ok (.iload_n 2, 1) := by decide +kernel
theorem d_Ut_takesEntry_9 : decode prog_1_method_20_code 9 = .ok (.ifCond .lt 47, 3) := by decide +kernel
theorem d_Ut_takesEntry_12 : decode prog_1_method_20_code 12 = .ok (.iload_n 2, 1) := by decide +kernel
theorem d_Ut_takesEntry_13 : decode prog_1_method_20_code 13 = .ok (.sipush 200, 3) := by decide +kernel
theorem d_Ut_takesEntry_16 : decode prog_1_method_20_code 16 = .ok (.if_icmp .gt 40, 3) := by decide +kernel
theorem d_Ut_takesEntry_19 : decode prog_1_method_20_code 19 = .ok (.aload_n 0, 1) := by decide +kernel
theorem d_Ut_takesEntry_20 : decode prog_1_method_20_code 20 = .ok (.getfield 59, 3) := by decide +kernel
theorem d_Ut_takesEntry_23 : decode prog_1_method_20_code 23 = .ok (.ifCond .ne 33, 3) := by decide +kernel
theorem d_Ut_takesEntry_26 : decode prog_1_method_20_code 26 = .ok (.iload_n 2, 1) := by decide +kernel
theorem d_Ut_takesEntry_27 : decode prog_1_method_20_code 27 = .ok (.aload_n 0, 1) := by decide +kernel
theorem d_Ut_takesEntry_28 : decode prog_1_method_20_code 28 = .ok (.getfield 20, 3) := by decide +kernel
theorem d_Ut_takesEntry_31 : decode prog_1_method_20_code 31 = .ok (.iload_n 1, 1) := by decide +kernel
theorem d_Ut_takesEntry_32 : decode prog_1_method_20_code 32 = .ok (.aaload, 1) := by decide +kernel
theorem d_Ut_takesEntry_33 : decode prog_1_method_20_code 33 = .ok (.getfield 134, 3) := by decide +kernel
theorem d_Ut_takesEntry_36 : decode prog_1_method_20_code 36 = .ok (.if_icmp .lt 20, 3) := by decide +kernel
theorem d_Ut_takesEntry_39 : decode prog_1_method_20_code 39 = .ok (.aload_n 0, 1) := by decide +kernel
theorem d_Ut_takesEntry_40 : decode prog_1_method_20_code 40 = .ok (.getfield 28, 3) := by decide +kernel
theorem d_Ut_takesEntry_43 : decode prog_1_method_20_code 43 = .ok (.getfield 133, 3) := by decide +kernel
theorem d_Ut_takesEntry_46 : decode prog_1_method_20_code 46 = .ok (.sipush 300, 3) := by decide +kernel
theorem d_Ut_takesEntry_49 : decode prog_1_method_20_code 49 = .ok (.if_icmp .ge 7, 3) := by decide +kernel
theorem d_Ut_takesEntry_52 : decode prog_1_method_20_code 52 = .ok (.iconst 1, 1) := by decide +kernel
theorem d_Ut_takesEntry_53 : decode prog_1_method_20_code 53 = .ok (.goto 4, 3) := by decide +kernel
theorem d_Ut_takesEntry_56 : decode prog_1_method_20_code 56 = .ok (.iconst 0, 1) := by decide +kernel
theorem d_Ut_takesEntry_57 : decode prog_1_method_20_code 57 = .ok (.ireturn, 1) := by decide +kernel
theorem d_Ut_tell_0 : decode prog_1_method_21_code 0 = .ok (.aload_n 0, 1) := by decide +kernel
theorem d_Ut_tell_1 : decode prog_1_method_21_code 1 = .ok (.getfield 28, 3) := by decide +kernel
theorem d_Ut_tell_4 : decode prog_1_method_21_code 4 = .ok (.iload_n 1, 1) := by decide +kernel
theorem d_Ut_tell_5 : decode prog_1_method_21_code 5 = .ok (.iload_n 2, 1) := by decide +kernel
theorem d_Ut_tell_6 : decode prog_1_method_21_code 6 = .ok (.iload_n 3, 1) := by decide +kernel
theorem d_Ut_tell_7 : decode prog_1_method_21_code 7 = .ok (.iload 4, 2) := by decide +kernel
theorem d_Ut_tell_9 : decode prog_1_method_21_code 9 = .ok (.lload 5, 2) := by decide +kernel
theorem d_Ut_tell_11 : decode prog_1_method_21_code 11 = .ok (.invokevirtual 140, 3) := by decide +kernel
theorem d_Ut_tell_14 : decode prog_1_method_21_code 14 = .ok (.aload_n 0, 1) := by decide +kernel
theorem d_Ut_tell_15 : decode prog_1_method_21_code 15 = .ok (.getfield 20, 3) := by decide +kernel
theorem d_Ut_tell_18 : decode prog_1_method_21_code 18 = .ok (.iload_n 2, 1) := by decide +kernel
theorem d_Ut_tell_19 : decode prog_1_method_21_code 19 = .ok (.aaload, 1) := by decide +kernel
theorem d_Ut_tell_20 : decode prog_1_method_21_code 20 = .ok (.aload_n 0, 1) := by decide +kernel
theorem d_Ut_tell_21 : decode prog_1_method_21_code 21 = .ok (.getfield 20, 3) := by decide +kernel
theorem d_Ut_tell_24 : decode prog_1_method_21_code 24 = .ok (.iload_n 2, 1) := by decide +kernel
theorem d_Ut_tell_25 : decode prog_1_method_21_code 25 = .ok (.aaload, 1) := by decide +kernel
theorem d_Ut_tell_26 : decode prog_1_method_21_code 26 = .ok (.getfield 143, 3) := by decide +kernel
theorem d_Ut_tell_29 : decode prog_1_method_21_code 29 = .ok (.iload_n 3, 1) := by decide +kernel
theorem d_Ut_tell_30 : decode prog_1_method_21_code 30 = .ok (.invokestatic 15, 3) := by decide +kernel
theorem d_Ut_tell_33 : decode prog_1_method_21_code 33 = .ok (.putfield 143, 3) := by decide +kernel
theorem d_Ut_tell_36 : decode prog_1_method_21_code 36 = .ok (.return_, 1) := by decide +kernel
theorem d_Ut_modeOf_0 : decode prog_1_method_22_code 0 = .ok (.aload_n 0, 1) := by decide +kernel
theorem d_Ut_modeOf_1 : decode prog_1_method_22_code 1 = .ok (.getfield 59, 3) := by decide +kernel
theorem d_Ut_modeOf_4 : decode prog_1_method_22_code 4 = .ok (.ifCond .eq 5, 3) := by decide +kernel
theorem d_Ut_modeOf_7 : decode prog_1_method_22_code 7 = .ok (.iconst 4, 1) := by decide +kernel
theorem d_Ut_modeOf_8 : decode prog_1_method_22_code 8 = .ok (.ireturn, 1) := by decide +kernel
theorem d_Ut_modeOf_9 : decode prog_1_method_22_code 9 = .ok (.aload_n 0, 1) := by decide +kernel
theorem d_Ut_modeOf_10 : decode prog_1_method_22_code 10 = .ok (.getfield 20, 3) := by decide +kernel
theorem d_Ut_modeOf_13 : decode prog_1_method_22_code 13 = .ok (.iload_n 1, 1) := by decide +kernel
theorem d_Ut_modeOf_14 : decode prog_1_method_22_code 14 = .ok (.aaload, 1) := by decide +kernel
theorem d_Ut_modeOf_15 : decode prog_1_method_22_code 15 = .ok (.invokevirtual 146, 3) := by decide +kernel
theorem d_Ut_modeOf_18 : decode prog_1_method_22_code 18 = .ok (.ifCond .eq 7, 3) := by decide +kernel
theorem d_Ut_modeOf_21 : decode prog_1_method_22_code 21 = .ok (.iconst 3, 1) := by decide +kernel
theorem d_Ut_modeOf_22 : decode prog_1_method_22_code 22 = .ok (.goto 12, 3) := by decide +kernel
theorem d_Ut_modeOf_25 : decode prog_1_method_22_code 25 = .ok (.aload_n 0, 1) := by decide +kernel
theorem d_Ut_modeOf_26 : decode prog_1_method_22_code 26 = .ok (.getfield 20, 3) := by decide +kernel
theorem d_Ut_modeOf_29 : decode prog_1_method_22_code 29 = .ok (.iload_n 1, 1) := by decide +kernel
theorem d_Ut_modeOf_30 : decode prog_1_method_22_code 30 = .ok (.aaload, 1) := by decide +kernel
theorem d_Ut_modeOf_31 : decode prog_1_method_22_code 31 = .ok (.getfield 121, 3) := by decide +kernel
theorem d_Ut_modeOf_34 : decode prog_1_method_22_code 34 = .ok (.ireturn, 1) := by decide +kernel
theorem d_Ut_acting_0 : decode prog_1_method_23_code 0 = .ok (.iconst 0, 1) := by decide +kernel
theorem d_Ut_acting_1 : decode prog_1_method_23_code 1 = .ok (.istore_n 1, 1) := by decide +kernel
theorem d_Ut_acting_2 : decode prog_1_method_23_code 2 = .ok (.iconst 0, 1) := by decide +kernel
theorem d_Ut_acting_3 : decode prog_1_method_23_code 3 = .ok (.istore_n 2, 1) := by decide +kernel
theorem d_Ut_acting_4 : decode prog_1_method_23_code 4 = .ok (.iload_n 2, 1) := by decide +kernel
theorem d_Ut_acting_5 : decode prog_1_method_23_code 5 = .ok (.aload_n 0, 1) := by decide +kernel
theorem d_Ut_acting_6 : decode prog_1_method_23_code 6 = .ok (.getfield 20, 3) := by decide +kernel
theorem d_Ut_acting_9 : decode prog_1_method_23_code 9 = .ok (.arraylength, 1) := by decide +kernel
theorem d_Ut_acting_10 : decode prog_1_method_23_code 10 = .ok (.if_icmp .ge 27, 3) := by decide +kernel
theorem d_Ut_acting_13 : decode prog_1_method_23_code 13 = .ok (.aload_n 0, 1) := by decide +kernel
theorem d_Ut_acting_14 : decode prog_1_method_23_code 14 = .ok (.iload_n 2, 1) := by decide +kernel
theorem d_Ut_acting_15 : decode prog_1_method_23_code 15 = .ok (.invokevirtual 117, 3) := by decide +kernel
theorem d_Ut_acting_18 : decode prog_1_method_23_code 18 = .ok (.istore_n 3, 1) := by decide +kernel
theorem d_Ut_acting_19 : decode prog_1_method_23_code 19 = .ok (.iload_n 3, 1) := by decide +kernel
theorem d_Ut_acting_20 : decode prog_1_method_23_code 20 = .ok (.ifCond .eq 8, 3) := by decide +kernel
theorem d_Ut_acting_23 : decode prog_1_method_23_code 23 = .ok (.iload_n 3, 1) := by decide +kernel
theorem d_Ut_acting_24 : decode prog_1_method_23_code 24 = .ok (.iconst 1, 1) := by decide +kernel
theorem d_Ut_acting_25 : decode prog_1_method_23_code 25 = .ok (.if_icmp .ne 6, 3) := by decide +kernel
theorem d_Ut_acting_28 : decode prog_1_method_23_code 28 = .ok (.iinc 1 1, 3) := by decide +kernel
theorem d_Ut_acting_31 : decode prog_1_method_23_code 31 = .ok (.iinc 2 1, 3) := by decide +kernel
theorem d_Ut_acting_34 : decode prog_1_method_23_code 34 = .ok (.goto (-30), 3) := by decide +kernel
theorem d_Ut_acting_37 : decode prog_1_method_23_code 37 = .ok (.iload_n 1, 1) := by decide +kernel
theorem d_Ut_acting_38 : decode prog_1_method_23_code 38 = .ok (.ireturn, 1) := by decide +kernel
theorem d_Ut_passSecond_0 : decode prog_1_method_24_code 0 = .ok (.aload_n 0, 1) := by decide +kernel
theorem d_Ut_passSecond_1 : decode prog_1_method_24_code 1 = .ok (.getfield 51, 3) := by decide +kernel
theorem d_Ut_passSecond_4 : decode prog_1_method_24_code 4 = .ok (.getfield 89, 3) := by decide +kernel
theorem d_Ut_passSecond_7 : decode prog_1_method_24_code 7 = .ok (.istore_n 1, 1) := by decide +kernel
theorem d_Ut_passSecond_8 : decode prog_1_method_24_code 8 = .ok (.aload_n 0, 1) := by decide +kernel
theorem d_Ut_passSecond_9 : decode prog_1_method_24_code 9 = .ok (.getfield 28, 3) := by decide +kernel
theorem d_Ut_passSecond_12 : decode prog_1_method_24_code 12 = .ok (.aload_n 0, 1) := by decide +kernel
theorem d_Ut_passSecond_13 : decode prog_1_method_24_code 13 = .ok (.getfield 20, 3) := by decide +kernel
theorem d_Ut_passSecond_16 : decode prog_1_method_24_code 16 = .ok (.invokevirtual 150, 3) := by decide +kernel
theorem d_Ut_passSecond_19 : decode prog_1_method_24_code 19 = .ok (.aload_n 0, 1) := by decide +kernel
theorem d_Ut_passSecond_20 : decode prog_1_method_24_code 20 = .ok (.getfield 37, 3) := by decide +kernel
theorem d_Ut_passSecond_23 : decode prog_1_method_24_code 23 = .ok (.aload_n 0, 1) := by decide +kernel
theorem d_Ut_passSecond_24 : decode prog_1_method_24_code 24 = .ok (.getfield 20, 3) := by decide +kernel
theorem d_Ut_passSecond_27 : decode prog_1_method_24_code 27 = .ok (.invokevirtual 154, 3) := by decide +kernel
theorem d_Ut_passSecond_30 : decode prog_1_method_24_code 30 = .ok (.aload_n 0, 1) := by decide +kernel
theorem d_Ut_passSecond_31 : decode prog_1_method_24_code 31 = .ok (.getfield 37, 3) := by decide +kernel
theorem d_Ut_passSecond_34 : decode prog_1_method_24_code 34 = .ok (.invokevirtual 157, 3) := by decide +kernel
theorem d_Ut_passSecond_37 : decode prog_1_method_24_code 37 = .ok (.aload_n 0, 1) := by decide +kernel
theorem d_Ut_passSecond_38 : decode prog_1_method_24_code 38 = .ok (.invokevirtual 160, 3) := by decide +kernel
theorem d_Ut_passSecond_41 : decode prog_1_method_24_code 41 = .ok (.aload_n 0, 1) := by decide +kernel
theorem d_Ut_passSecond_42 : decode prog_1_method_24_code 42 = .ok (.iload_n 1, 1) := by decide +kernel
theorem d_Ut_passSecond_43 : decode prog_1_method_24_code 43 = .ok (.invokevirtual 163, 3) := by decide +kernel
theorem d_Ut_passSecond_46 : decode prog_1_method_24_code 46 = .ok (.aload_n 0, 1) := by decide +kernel
theorem d_Ut_passSecond_47 : decode prog_1_method_24_code 47 = .ok (.aload_n 0, 1) := by decide +kernel
theorem d_Ut_passSecond_48 : decode prog_1_method_24_code 48 = .ok (.getfield 55, 3) := by decide +kernel
theorem d_Ut_passSecond_51 : decode prog_1_method_24_code 51 = .ok (.iload_n 1, 1) := by decide +kernel
theorem d_Ut_passSecond_52 : decode prog_1_method_24_code 52 = .ok (.iaload, 1) := by decide +kernel
theorem d_Ut_passSecond_53 : decode prog_1_method_24_code 53 = .ok (.invokevirtual 166, 3) := by decide +kernel
theorem d_Ut_passSecond_56 : decode prog_1_method_24_code 56 = .ok (.aload_n 0, 1) := by decide +kernel
theorem d_Ut_passSecond_57 : decode prog_1_method_24_code 57 = .ok (.invokevirtual 169, 3) := by decide +kernel
theorem d_Ut_passSecond_60 : decode prog_1_method_24_code 60 = .ok (.aload_n 0, 1) := by decide +kernel
theorem d_Ut_passSecond_61 : decode prog_1_method_24_code 61 = .ok (.getfield 51, 3) := by decide +kernel
theorem d_Ut_passSecond_64 : decode prog_1_method_24_code 64 = .ok (.invokevirtual 172, 3) := by decide +kernel
theorem d_Ut_passSecond_67 : decode prog_1_method_24_code 67 = .ok (.iconst 0, 1) := by decide +kernel
theorem d_Ut_passSecond_68 : decode prog_1_method_24_code 68 = .ok (.istore_n 2, 1) := by decide +kernel
theorem d_Ut_passSecond_69 : decode prog_1_method_24_code 69 = .ok (.iload_n 2, 1) := by decide +kernel
theorem d_Ut_passSecond_70 : decode prog_1_method_24_code 70 = .ok (.aload_n 0, 1) := by decide +kernel
theorem d_Ut_passSecond_71 : decode prog_1_method_24_code 71 = .ok (.getfield 37, 3) := by decide +kernel
theorem d_Ut_passSecond_74 : decode prog_1_method_24_code 74 = .ok (.getfield 175, 3) := by decide +kernel
theorem d_Ut_passSecond_77 : decode prog_1_method_24_code 77 = .ok (.if_icmp .ge 37, 3) := by decide +kernel
theorem d_Ut_passSecond_80 : decode prog_1_method_24_code 80 = .ok (.aload_n 0, 1) := by decide +kernel
theorem d_Ut_passSecond_81 : decode prog_1_method_24_code 81 = .ok (.getfield 37, 3) := by decide +kernel
theorem d_Ut_passSecond_84 : decode prog_1_method_24_code 84 = .ok (.getfield 176, 3) := by decide +kernel
theorem d_Ut_passSecond_87 : decode prog_1_method_24_code 87 = .ok (.iload_n 2, 1) := by decide +kernel
theorem d_Ut_passSecond_88 : decode prog_1_method_24_code 88 = .ok (.iaload, 1) := by decide +kernel
theorem d_Ut_passSecond_89 : decode prog_1_method_24_code 89 = .ok (.istore_n 3, 1) := by decide +kernel
theorem d_Ut_passSecond_90 : decode prog_1_method_24_code 90 = .ok (.aload_n 0, 1) := by decide +kernel
theorem d_Ut_passSecond_91 : decode prog_1_method_24_code 91 = .ok (.getfield 44, 3) := by decide +kernel
theorem d_Ut_passSecond_94 : decode prog_1_method_24_code 94 = .ok (.iload_n 1, 1) := by decide +kernel
theorem d_Ut_passSecond_95 : decode prog_1_method_24_code 95 = .ok (.iload_n 3, 1) := by decide +kernel
theorem d_Ut_passSecond_96 : decode prog_1_method_24_code 96 = .ok (.aload_n 0, 1) := by decide +kernel
theorem d_Ut_passSecond_97 : decode prog_1_method_24_code 97 = .ok (.getfield 20, 3) := by decide +kernel
theorem d_Ut_passSecond_100 : decode prog_1_method_24_code 100 = .ok (.iload_n 3, 1) := by decide +kernel
theorem d_Ut_passSecond_101 : decode prog_1_method_24_code 101 = .ok (.aaload, 1) := by decide +kernel
theorem d_Ut_passSecond_102 : decode prog_1_method_24_code 102 = .ok (.getfield 179, 3) := by decide +kernel
theorem d_Ut_passSecond_105 : decode prog_1_method_24_code 105 = .ok (.invokevirtual 182, 3) := by decide +kernel
theorem d_Ut_passSecond_108 : decode prog_1_method_24_code 108 = .ok (.iinc 2 1, 3) := by decide +kernel
theorem d_Ut_passSecond_111 : decode prog_1_method_24_code 111 = .ok (.goto (-42), 3) := by decide +kernel
theorem d_Ut_passSecond_114 : decode prog_1_method_24_code 114 = .ok (.return_, 1) := by decide +kernel
theorem d_Ut_takeTurns_0 : decode prog_1_method_25_code 0 = .ok (.iconst 0, 1) := by decide +kernel
theorem d_Ut_takeTurns_1 : decode prog_1_method_25_code 1 = .ok (.istore_n 1, 1) := by decide +kernel
theorem d_Ut_takeTurns_2 : decode prog_1_method_25_code 2 = .ok (.iload_n 1, 1) := by decide +kernel
theorem d_Ut_takeTurns_3 : decode prog_1_method_25_code 3 = .ok (.aload_n 0, 1) := by decide +kernel
theorem d_Ut_takeTurns_4 : decode prog_1_method_25_code 4 = .ok (.getfield 20, 3) := by decide +kernel
theorem d_Ut_takeTurns_7 : decode prog_1_method_25_code 7 = .ok (.arraylength, 1) := by decide +kernel
theorem d_Ut_takeTurns_8 : decode prog_1_method_25_code 8 = .ok (.if_icmp .ge 19, 3) := by decide +kernel
theorem d_Ut_takeTurns_11 : decode prog_1_method_25_code 11 = .ok (.aload_n 0, 1) := by decide +kernel
theorem d_Ut_takeTurns_12 : decode prog_1_method_25_code 12 = .ok (.getfield 20, 3) := by decide +kernel
theorem d_Ut_takeTurns_15 : decode prog_1_method_25_code 15 = .ok (.iload_n 1, 1) := by decide +kernel
theorem d_Ut_takeTurns_16 : decode prog_1_method_25_code 16 = .ok (.aaload, 1) := by decide +kernel
theorem d_Ut_takeTurns_17 : decode prog_1_method_25_code 17 = .ok (.iconst (-1), 1) := by decide +kernel
theorem d_Ut_takeTurns_18 : decode prog_1_method_25_code 18 = .ok (.putfield 179, 3) := by decide +kernel
theorem d_Ut_takeTurns_21 : decode prog_1_method_25_code 21 = .ok (.iinc 1 1, 3) := by decide +kernel
theorem d_Ut_takeTurns_24 : decode prog_1_method_25_code 24 = .ok (.goto (-22), 3) := by decide +kernel
theorem d_Ut_takeTurns_27 : decode prog_1_method_25_code 27 = .ok (.iconst 0, 1) := by decide +kernel
theorem d_Ut_takeTurns_28 : decode prog_1_method_25_code 28 = .ok (.istore_n 1, 1) := by decide +kernel
theorem d_Ut_takeTurns_29 : decode prog_1_method_25_code 29 = .ok (.iload_n 1, 1) := by decide +kernel
theorem d_Ut_takeTurns_30 : decode prog_1_method_25_code 30 = .ok (.aload_n 0, 1) := by decide +kernel
theorem d_Ut_takeTurns_31 : decode prog_1_method_25_code 31 = .ok (.getfield 37, 3) := by decide +kernel
theorem d_Ut_takeTurns_34 : decode prog_1_method_25_code 34 = .ok (.getfield 175, 3) := by decide +kernel
theorem d_Ut_takeTurns_37 : decode prog_1_method_25_code 37 = .ok (.if_icmp .ge 41, 3) := by decide +kernel
theorem d_Ut_takeTurns_40 : decode prog_1_method_25_code 40 = .ok (.aload_n 0, 1) := by decide +kernel
theorem d_Ut_takeTurns_41 : decode prog_1_method_25_code 41 = .ok (.getfield 20, 3) := by decide +kernel
theorem d_Ut_takeTurns_44 : decode prog_1_method_25_code 44 = .ok (.aload_n 0, 1) := by decide +kernel
theorem d_Ut_takeTurns_45 : decode prog_1_method_25_code 45 = .ok (.getfield 37, 3) := by decide +kernel
theorem d_Ut_takeTurns_48 : decode prog_1_method_25_code 48 = .ok (.getfield 176, 3) := by decide +kernel
theorem d_Ut_takeTurns_51 : decode prog_1_method_25_code 51 = .ok (.iload_n 1, 1) := by decide +kernel
theorem d_Ut_takeTurns_52 : decode prog_1_method_25_code 52 = .ok (.iaload, 1) := by decide +kernel
theorem d_Ut_takeTurns_53 : decode prog_1_method_25_code 53 = .ok (.aaload, 1) := by decide +kernel
theorem d_Ut_takeTurns_54 : decode prog_1_method_25_code 54 = .ok (.astore_n 2, 1) := by decide +kernel
theorem d_Ut_takeTurns_55 : decode prog_1_method_25_code 55 = .ok (.aload_n 2, 1) := by decide +kernel
theorem d_Ut_takeTurns_56 : decode prog_1_method_25_code 56 = .ok (.aload_n 2, 1) := by decide +kernel
theorem d_Ut_takeTurns_57 : decode prog_1_method_25_code 57 = .ok (.getfield 185, 3) := by decide +kernel
theorem d_Ut_takeTurns_60 : decode prog_1_method_25_code 60 = .ok (.iconst (-1), 1) := by decide +kernel
theorem d_Ut_takeTurns_61 : decode prog_1_method_25_code 61 = .ok (.if_icmp .ne 7, 3) := by decide +kernel
theorem d_Ut_takeTurns_64 : decode prog_1_method_25_code 64 = .ok (.iconst 1, 1) := by decide +kernel
theorem d_Ut_takeTurns_65 : decode prog_1_method_25_code 65 = .ok (.goto 4, 3) := by decide +kernel
theorem d_Ut_takeTurns_68 : decode prog_1_method_25_code 68 = .ok (.iconst 2, 1) := by decide +kernel
theorem d_Ut_takeTurns_69 : decode prog_1_method_25_code 69 = .ok (.putfield 179, 3) := by decide +kernel
theorem d_Ut_takeTurns_72 : decode prog_1_method_25_code 72 = .ok (.iinc 1 1, 3) := by decide +kernel
theorem d_Ut_takeTurns_75 : decode prog_1_method_25_code 75 = .ok (.goto (-46), 3) := by decide +kernel
theorem d_Ut_takeTurns_78 : decode prog_1_method_25_code 78 = .ok (.return_, 1) := by decide +kernel
theorem d_Ut_holdThrowers_0 : decode prog_1_method_26_code 0 = .ok (.iconst 0, 1) := by decide +kernel
theorem d_Ut_holdThrowers_1 : decode prog_1_method_26_code 1 = .ok (.istore_n 2, 1) := by decide +kernel
theorem d_Ut_holdThrowers_2 : decode prog_1_method_26_code 2 = .ok (.iload_n 2, 1) := by decide +kernel
theorem d_Ut_holdThrowers_3 : decode prog_1_method_26_code 3 = .ok (.aload_n 0, 1) := by decide +kernel
theorem d_Ut_holdThrowers_4 : decode prog_1_method_26_code 4 = .ok (.getfield 20, 3) := by decide +kernel
theorem d_Ut_holdThrowers_7 : decode prog_1_method_26_code 7 = .ok (.arraylength, 1) := by decide +kernel
theorem d_Ut_holdThrowers_8 : decode prog_1_method_26_code 8 = .ok (.if_icmp .ge 53, 3) := by decide +kernel
theorem d_Ut_holdThrowers_11 : decode prog_1_method_26_code 11 = .ok (.aload_n 0, 1) := by decide +kernel
theorem d_Ut_holdThrowers_12 : decode prog_1_method_26_code 12 = .ok (.getfield 20, 3) := by decide +kernel
theorem d_Ut_holdThrowers_15 : decode prog_1_method_26_code 15 = .ok (.iload_n 2, 1) := by decide +kernel
theorem d_Ut_holdThrowers_16 : decode prog_1_method_26_code 16 = .ok (.aaload, 1) := by decide +kernel
theorem d_Ut_holdThrowers_17 : decode prog_1_method_26_code 17 = .ok (.astore_n 3, 1) := by decide +kernel
theorem d_Ut_holdThrowers_18 : decode prog_1_method_26_code 18 = .ok (.aload_n 3, 1) := by decide +kernel
theorem d_Ut_holdThrowers_19 : decode prog_1_method_26_code 19 = .ok (.getfield 179, 3) := by decide +kernel
theorem d_Ut_holdThrowers_22 : decode prog_1_method_26_code 22 = .ok (.iconst 2, 1) := by decide +kernel
theorem d_Ut_holdThrowers_23 : decode prog_1_method_26_code 23 = .ok (.if_icmp .ne 32, 3) := by decide +kernel
theorem d_Ut_holdThrowers_26 : decode prog_1_method_26_code 26 = .ok (.aload_n 0, 1) := by decide +kernel
theorem d_Ut_holdThrowers_27 : decode prog_1_method_26_code 27 = .ok (.getfield 28, 3) := by decide +kernel
theorem d_Ut_holdThrowers_30 : decode prog_1_method_26_code 30 = .ok (.aload_n 3, 1) := by decide +kernel
theorem d_Ut_holdThrowers_31 : decode prog_1_method_26_code 31 = .ok (.getfield 185, 3) := by decide +kernel
theorem d_Ut_holdThrowers_34 : decode prog_1_method_26_code 34 = .ok (.invokevirtual 188, 3) := by decide +kernel
theorem d_Ut_holdThrowers_37 : decode prog_1_method_26_code 37 = .ok (.aload_n 3, 1) := by decide +kernel
theorem d_Ut_holdThrowers_38 : decode prog_1_method_26_code 38 = .ok (.iconst 2, 1) := by decide +kernel
theorem d_Ut_holdThrowers_39 : decode prog_1_method_26_code 39 = .ok (.putfield 121, 3) := by decide +kernel
theorem d_Ut_holdThrowers_42 : decode prog_1_method_26_code 42 = .ok (.aload_n 3, 1) := by decide +kernel
theorem d_Ut_holdThrowers_43 : decode prog_1_method_26_code 43 = .ok (.iload_n 1, 1) := by decide +kernel
theorem d_Ut_holdThrowers_44 : decode prog_1_method_26_code 44 = .ok (.putfield 124, 3) := by decide +kernel
theorem d_Ut_holdThrowers_47 : decode prog_1_method_26_code 47 = .ok (.aload_n 0, 1) := by decide +kernel
theorem d_Ut_holdThrowers_48 : decode prog_1_method_26_code 48 = .ok (.getfield 51, 3) := by decide +kernel
theorem d_Ut_holdThrowers_51 : decode prog_1_method_26_code 51 = .ok (.iload_n 2, 1) := by decide +kernel
theorem d_Ut_holdThrowers_52 : decode prog_1_method_26_code 52 = .ok (.invokevirtual 191, 3) := by decide +kernel
theorem d_Ut_holdThrowers_55 : decode prog_1_method_26_code 55 = .ok (.iinc 2 1, 3) := by decide +kernel
theorem d_Ut_holdThrowers_58 : decode prog_1_method_26_code 58 = .ok (.goto (-56), 3) := by decide +kernel
theorem d_Ut_holdThrowers_61 : decode prog_1_method_26_code 61 = .ok (.return_, 1) := by decide +kernel
theorem d_Ut_grantWays_0 : decode prog_1_method_27_code 0 = .ok (.iconst 0, 1) := by decide +kernel
theorem d_Ut_grantWays_1 : decode prog_1_method_27_code 1 = .ok (.istore_n 2, 1) := by decide +kernel
theorem d_Ut_grantWays_2 : decode prog_1_method_27_code 2 = .ok (.iload_n 2, 1) := by decide +kernel
theorem d_Ut_grantWays_3 : decode prog_1_method_27_code 3 = .ok (.bipush 16, 2) := by decide +kernel
theorem d_Ut_grantWays_5 : decode prog_1_method_27_code 5 = .ok (.if_icmp .ge 44, 3) := by decide +kernel
theorem d_Ut_grantWays_8 : decode prog_1_method_27_code 8 = .ok (.aload_n 0, 1) := by decide +kernel
theorem d_Ut_grantWays_9 : decode prog_1_method_27_code 9 = .ok (.getfield 51, 3) := by decide +kernel
theorem d_Ut_grantWays_12 : decode prog_1_method_27_code 12 = .ok (.getfield 194, 3) := by decide +kernel
theorem d_Ut_grantWays_15 : decode prog_1_method_27_code 15 = .ok (.iload_n 2, 1) := by decide +kernel
theorem d_Ut_grantWays_16 : decode prog_1_method_27_code 16 = .ok (.iaload, 1) := by decide +kernel
theorem d_Ut_grantWays_17 : decode prog_1_method_27_code 17 = .ok (.iconst (-1), 1) := by decide +kernel
theorem d_Ut_grantWays_18 : decode prog_1_method_27_code 18 = .ok (.if_icmp .ne 25, 3) := by decide +kernel
theorem d_Ut_grantWays_21 : decode prog_1_method_27_code 21 = .ok (.iload_n 1, 1) := by decide +kernel
theorem d_Ut_grantWays_22 : decode prog_1_method_27_code 22 = .ok (.iload_n 2, 1) := by decide +kernel
theorem d_Ut_grantWays_23 : decode prog_1_method_27_code 23 = .ok (.invokestatic 93, 3) := by decide +kernel
theorem d_Ut_grantWays_26 : decode prog_1_method_27_code 26 = .ok (.ifCond .ne 17, 3) := by decide +kernel
theorem d_Ut_grantWays_29 : decode prog_1_method_27_code 29 = .ok (.aload_n 0, 1) := by decide +kernel
theorem d_Ut_grantWays_30 : decode prog_1_method_27_code 30 = .ok (.getfield 51, 3) := by decide +kernel
theorem d_Ut_grantWays_33 : decode prog_1_method_27_code 33 = .ok (.getfield 194, 3) := by decide +kernel
theorem d_Ut_grantWays_36 : decode prog_1_method_27_code 36 = .ok (.iload_n 2, 1) := by decide +kernel
theorem d_Ut_grantWays_37 : decode prog_1_method_27_code 37 = .ok (.aload_n 0, 1) := by decide +kernel
theorem d_Ut_grantWays_38 : decode prog_1_method_27_code 38 = .ok (.iload_n 2, 1) := by decide +kernel
theorem d_Ut_grantWays_39 : decode prog_1_method_27_code 39 = .ok (.invokevirtual 197, 3) := by decide +kernel
theorem d_Ut_grantWays_42 : decode prog_1_method_27_code 42 = .ok (.iastore, 1) := by decide +kernel
theorem d_Ut_grantWays_43 : decode prog_1_method_27_code 43 = .ok (.iinc 2 1, 3) := by decide +kernel
theorem d_Ut_grantWays_46 : decode prog_1_method_27_code 46 = .ok (.goto (-44), 3) := by decide +kernel
theorem d_Ut_grantWays_49 : decode prog_1_method_27_code 49 = .ok (.return_, 1) := by decide +kernel
theorem d_Ut_leastAsker_0 : decode prog_1_method_28_code 0 = .ok (.iconst 0, 1) := by decide +kernel
theorem d_Ut_leastAsker_1 : decode prog_1_method_28_code 1 = .ok (.istore_n 2, 1) := by decide +kernel
theorem d_Ut_leastAsker_2 : decode prog_1_method_28_code 2 = .ok (.iload_n 2, 1) := by decide +kernel
theorem d_Ut_leastAsker_3 : decode prog_1_method_28_code 3 = .ok (.aload_n 0, 1) := by decide +kernel
theorem d_Ut_leastAsker_4 : decode prog_1_method_28_code 4 = .ok (.getfield 20, 3) := by decide +kernel
theorem d_Ut_leastAsker_7 : decode prog_1_method_28_code 7 = .ok (.arraylength, 1) := by decide +kernel
theorem d_Ut_leastAsker_8 : decode prog_1_method_28_code 8 = .ok (.if_icmp .ge 40, 3) := by decide +kernel
theorem d_Ut_leastAsker_11 : decode prog_1_method_28_code 11 = .ok (.aload_n 0, 1) := by decide +kernel
theorem d_Ut_leastAsker_12 : decode prog_1_method_28_code 12 = .ok (.getfield 20, 3) := by decide +kernel
theorem d_Ut_leastAsker_15 : decode prog_1_method_28_code 15 = .ok (.iload_n 2, 1) := by decide +kernel
theorem d_Ut_leastAsker_16 : decode prog_1_method_28_code 16 = .ok (.aaload, 1) := by decide +kernel
theorem d_Ut_leastAsker_17 : decode prog_1_method_28_code 17 = .ok (.getfield 179, 3) := by decide +kernel
theorem d_Ut_leastAsker_20 : decode prog_1_method_28_code 20 = .ok (.iconst 1, 1) := by decide +kernel
theorem d_Ut_leastAsker_21 : decode prog_1_method_28_code 21 = .ok (.if_icmp .ne 21, 3) := by decide +kernel
theorem d_Ut_leastAsker_24 : decode prog_1_method_28_code 24 = .ok (.aload_n 0, 1) := by decide +kernel
theorem d_Ut_leastAsker_25 : decode prog_1_method_28_code 25 = .ok (.getfield 20, 3) := by decide +kernel
theorem d_Ut_leastAsker_28 : decode prog_1_method_28_code 28 = .ok (.iload_n 2, 1) := by decide +kernel
theorem d_Ut_leastAsker_29 : decode prog_1_method_28_code 29 = .ok (.aaload, 1) := by decide +kernel
theorem d_Ut_leastAsker_30 : decode prog_1_method_28_code 30 = .ok (.invokevirtual 200, 3) := by decide +kernel
theorem d_Ut_leastAsker_33 : decode prog_1_method_28_code 33 = .ok (.iload_n 1, 1) := by decide +kernel
theorem d_Ut_leastAsker_34 : decode prog_1_method_28_code 34 = .ok (.invokestatic 93, 3) := by decide +kernel
theorem d_Ut_leastAsker_37 : decode prog_1_method_28_code 37 = .ok (.ifCond .eq 5, 3) := by decide +kernel
theorem d_Ut_leastAsker_40 : decode prog_1_method_28_code 40 = .ok (.iload_n 2, 1) := by decide +kernel
theorem d_Ut_leastAsker_41 : decode prog_1_method_28_code 41 = .ok (.ireturn, 1) := by decide +kernel
theorem d_Ut_leastAsker_42 : decode prog_1_method_28_code 42 = .ok (.iinc 2 1, 3) := by decide +kernel
theorem d_Ut_leastAsker_45 : decode prog_1_method_28_code 45 = .ok (.goto (-43), 3) := by decide +kernel
theorem d_Ut_leastAsker_48 : decode prog_1_method_28_code 48 = .ok (.iconst (-1), 1) := by decide +kernel
theorem d_Ut_leastAsker_49 : decode prog_1_method_28_code 49 = .ok (.ireturn, 1) := by decide +kernel
theorem d_Ut_settle_0 : decode prog_1_method_29_code 0 = .ok (.iconst 0, 1) := by decide +kernel
theorem d_Ut_settle_1 : decode prog_1_method_29_code 1 = .ok (.istore_n 1, 1) := by decide +kernel
theorem d_Ut_settle_2 : decode prog_1_method_29_code 2 = .ok (.iload_n 1, 1) := by decide +kernel
theorem d_Ut_settle_3 : decode prog_1_method_29_code 3 = .ok (.aload_n 0, 1) := by decide +kernel
theorem d_Ut_settle_4 : decode prog_1_method_29_code 4 = .ok (.getfield 20, 3) := by decide +kernel
theorem d_Ut_settle_7 : decode prog_1_method_29_code 7 = .ok (.arraylength, 1) := by decide +kernel
theorem d_Ut_settle_8 : decode prog_1_method_29_code 8 = .ok (.if_icmp .ge 52, 3) := by decide +kernel
theorem d_Ut_settle_11 : decode prog_1_method_29_code 11 = .ok (.aload_n 0, 1) := by decide +kernel
theorem d_Ut_settle_12 : decode prog_1_method_29_code 12 = .ok (.getfield 20, 3) := by decide +kernel
theorem d_Ut_settle_15 : decode prog_1_method_29_code 15 = .ok (.iload_n 1, 1) := by decide +kernel
theorem d_Ut_settle_16 : decode prog_1_method_29_code 16 = .ok (.aaload, 1) := by decide +kernel
theorem d_Ut_settle_17 : decode prog_1_method_29_code 17 = .ok (.getfield 179, 3) := by decide +kernel
theorem d_Ut_settle_20 : decode prog_1_method_29_code 20 = .ok (.iconst 1, 1) := by decide +kernel
theorem d_Ut_settle_21 : decode prog_1_method_29_code 21 = .ok (.if_icmp .ne 33, 3) := by decide +kernel
theorem d_Ut_settle_24 : decode prog_1_method_29_code 24 = .ok (.aload_n 0, 1) := by decide +kernel
theorem d_Ut_settle_25 : decode prog_1_method_29_code 25 = .ok (.getfield 51, 3) := by decide +kernel
theorem d_Ut_settle_28 : decode prog_1_method_29_code 28 = .ok (.iload_n 1, 1) := by decide +kernel
theorem d_Ut_settle_29 : decode prog_1_method_29_code 29 = .ok (.aload_n 0, 1) := by decide +kernel
theorem d_Ut_settle_30 : decode prog_1_method_29_code 30 = .ok (.getfield 20, 3) := by decide +kernel
theorem d_Ut_settle_33 : decode prog_1_method_29_code 33 = .ok (.iload_n 1, 1) := by decide +kernel
theorem d_Ut_settle_34 : decode prog_1_method_29_code 34 = .ok (.aaload, 1) := by decide +kernel
theorem d_Ut_settle_35 : decode prog_1_method_29_code 35 = .ok (.invokevirtual 200, 3) := by decide +kernel
theorem d_Ut_settle_38 : decode prog_1_method_29_code 38 = .ok (.invokevirtual 203, 3) := by decide +kernel
theorem d_Ut_settle_41 : decode prog_1_method_29_code 41 = .ok (.ifCond .eq 13, 3) := by decide +kernel
theorem d_Ut_settle_44 : decode prog_1_method_29_code 44 = .ok (.aload_n 0, 1) := by decide +kernel
theorem d_Ut_settle_45 : decode prog_1_method_29_code 45 = .ok (.getfield 20, 3) := by decide +kernel
theorem d_Ut_settle_48 : decode prog_1_method_29_code 48 = .ok (.iload_n 1, 1) := by decide +kernel
theorem d_Ut_settle_49 : decode prog_1_method_29_code 49 = .ok (.aaload, 1) := by decide +kernel
theorem d_Ut_settle_50 : decode prog_1_method_29_code 50 = .ok (.iconst 0, 1) := by decide +kernel
theorem d_Ut_settle_51 : decode prog_1_method_29_code 51 = .ok (.putfield 179, 3) := by decide +kernel
theorem d_Ut_settle_54 : decode prog_1_method_29_code 54 = .ok (.iinc 1 1, 3) := by decide +kernel
theorem d_Ut_settle_57 : decode prog_1_method_29_code 57 = .ok (.goto (-55), 3) := by decide +kernel
theorem d_Ut_settle_60 : decode prog_1_method_29_code 60 = .ok (.aload_n 0, 1) := by decide +kernel
theorem d_Ut_settle_61 : decode prog_1_method_29_code 61 = .ok (.getfield 28, 3) := by decide +kernel
theorem d_Ut_settle_64 : decode prog_1_method_29_code 64 = .ok (.aload_n 0, 1) := by decide +kernel
theorem d_Ut_settle_65 : decode prog_1_method_29_code 65 = .ok (.getfield 20, 3) := by decide +kernel
theorem d_Ut_settle_68 : decode prog_1_method_29_code 68 = .ok (.aload_n 0, 1) := by decide +kernel
theorem d_Ut_settle_69 : decode prog_1_method_29_code 69 = .ok (.getfield 51, 3) := by decide +kernel
theorem d_Ut_settle_72 : decode prog_1_method_29_code 72 = .ok (.getfield 206, 3) := by decide +kernel
theorem d_Ut_settle_75 : decode prog_1_method_29_code 75 = .ok (.invokevirtual 209, 3) := by decide +kernel
theorem d_Ut_settle_78 : decode prog_1_method_29_code 78 = .ok (.iconst 0, 1) := by decide +kernel
theorem d_Ut_settle_79 : decode prog_1_method_29_code 79 = .ok (.istore_n 1, 1) := by decide +kernel
theorem d_Ut_settle_80 : decode prog_1_method_29_code 80 = .ok (.iload_n 1, 1) := by decide +kernel
theorem d_Ut_settle_81 : decode prog_1_method_29_code 81 = .ok (.aload_n 0, 1) := by decide +kernel
theorem d_Ut_settle_82 : decode prog_1_method_29_code 82 = .ok (.getfield 20, 3) := by decide +kernel
theorem d_Ut_settle_85 : decode prog_1_method_29_code 85 = .ok (.arraylength, 1) := by decide +kernel
theorem d_Ut_settle_86 : decode prog_1_method_29_code 86 = .ok (.if_icmp .ge 66, 3) := by decide +kernel
theorem d_Ut_settle_89 : decode prog_1_method_29_code 89 = .ok (.aload_n 0, 1) := by decide +kernel
theorem d_Ut_settle_90 : decode prog_1_method_29_code 90 = .ok (.getfield 20, 3) := by decide +kernel
theorem d_Ut_settle_93 : decode prog_1_method_29_code 93 = .ok (.iload_n 1, 1) := by decide +kernel
theorem d_Ut_settle_94 : decode prog_1_method_29_code 94 = .ok (.aaload, 1) := by decide +kernel
theorem d_Ut_settle_95 : decode prog_1_method_29_code 95 = .ok (.astore_n 2, 1) := by decide +kernel
theorem d_Ut_settle_96 : decode prog_1_method_29_code 96 = .ok (.aload_n 2, 1) := by decide +kernel
theorem d_Ut_settle_97 : decode prog_1_method_29_code 97 = .ok (.getfield 179, 3) := by decide +kernel
theorem d_Ut_settle_100 : decode prog_1_method_29_code 100 = .ok (.ifCond .ne 33, 3) := by decide +kernel
theorem d_Ut_settle_103 : decode prog_1_method_29_code 103 = .ok (.aload_n 0, 1) := by decide +kernel
theorem d_Ut_settle_104 : decode prog_1_method_29_code 104 = .ok (.getfield 51, 3) := by decide +kernel
theorem d_Ut_settle_107 : decode prog_1_method_29_code 107 = .ok (.iload_n 1, 1) := by decide +kernel
theorem d_Ut_settle_108 : decode prog_1_method_29_code 108 = .ok (.aload_n 2, 1) := by decide +kernel
theorem d_Ut_settle_109 : decode prog_1_method_29_code 109 = .ok (.invokevirtual 213, 3) := by decide +kernel
theorem d_Ut_settle_112 : decode prog_1_method_29_code 112 = .ok (.invokevirtual 216, 3) := by decide +kernel
theorem d_Ut_settle_115 : decode prog_1_method_29_code 115 = .ok (.aload_n 2, 1) := by decide +kernel
theorem d_Ut_settle_116 : decode prog_1_method_29_code 116 = .ok (.dup, 1) := by decide +kernel
theorem d_Ut_settle_117 : decode prog_1_method_29_code 117 = .ok (.getfield 134, 3) := by decide +kernel
theorem d_Ut_settle_120 : decode prog_1_method_29_code 120 = .ok (.iconst 1, 1) := by decide +kernel
theorem d_Ut_settle_121 : decode prog_1_method_29_code 121 = .ok (.iadd, 1) := by decide +kernel
theorem d_Ut_settle_122 : decode prog_1_method_29_code 122 = .ok (.putfield 134, 3) := by decide +kernel
theorem d_Ut_settle_125 : decode prog_1_method_29_code 125 = .ok (.aload_n 2, 1) := by decide +kernel
theorem d_Ut_settle_126 : decode prog_1_method_29_code 126 = .ok (.iconst 0, 1) := by decide +kernel
theorem d_Ut_settle_127 : decode prog_1_method_29_code 127 = .ok (.putfield 121, 3) := by decide +kernel
theorem d_Ut_settle_130 : decode prog_1_method_29_code 130 = .ok (.goto 16, 3) := by decide +kernel
theorem d_Ut_settle_133 : decode prog_1_method_29_code 133 = .ok (.aload_n 2, 1) := by decide +kernel
theorem d_Ut_settle_134 : decode prog_1_method_29_code 134 = .ok (.getfield 179, 3) := by decide +kernel
theorem d_Ut_settle_137 : decode prog_1_method_29_code 137 = .ok (.iconst 1, 1) := by decide +kernel
theorem d_Ut_settle_138 : decode prog_1_method_29_code 138 = .ok (.if_icmp .ne 8, 3) := by decide +kernel
theorem d_Ut_settle_141 : decode prog_1_method_29_code 141 = .ok (.aload_n 2, 1) := by decide +kernel
theorem d_Ut_settle_142 : decode prog_1_method_29_code 142 = .ok (.iconst 1, 1) := by decide +kernel
theorem d_Ut_settle_143 : decode prog_1_method_29_code 143 = .ok (.putfield 121, 3) := by decide +kernel
theorem d_Ut_settle_146 : decode prog_1_method_29_code 146 = .ok (.iinc 1 1, 3) := by decide +kernel
theorem d_Ut_settle_149 : decode prog_1_method_29_code 149 = .ok (.goto (-69), 3) := by decide +kernel
theorem d_Ut_settle_152 : decode prog_1_method_29_code 152 = .ok (.return_, 1) := by decide +kernel

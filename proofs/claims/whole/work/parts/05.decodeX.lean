theorem d_Un_init_0 : decode prog_6_method_1_code 0 = .ok (.aload_n 0, 1) := by decide +kernel
theorem d_Un_init_1 : decode prog_6_method_1_code 1 = .ok (.invokespecial 3, 3) := by decide +kernel
theorem d_Un_init_4 : decode prog_6_method_1_code 4 = .ok (.aload_n 0, 1) := by decide +kernel
theorem d_Un_init_5 : decode prog_6_method_1_code 5 = .ok (.iconst 0, 1) := by decide +kernel
theorem d_Un_init_6 : decode prog_6_method_1_code 6 = .ok (.putfield 9, 3) := by decide +kernel
theorem d_Un_init_9 : decode prog_6_method_1_code 9 = .ok (.aload_n 0, 1) := by decide +kernel
theorem d_Un_init_10 : decode prog_6_method_1_code 10 = .ok (.iconst (-1), 1) := by decide +kernel
theorem d_Un_init_11 : decode prog_6_method_1_code 11 = .ok (.putfield 15, 3) := by decide +kernel
theorem d_Un_init_14 : decode prog_6_method_1_code 14 = .ok (.aload_n 0, 1) := by decide +kernel
theorem d_Un_init_15 : decode prog_6_method_1_code 15 = .ok (.iconst 0, 1) := by decide +kernel
theorem d_Un_init_16 : decode prog_6_method_1_code 16 = .ok (.putfield 18, 3) := by decide +kernel
theorem d_Un_init_19 : decode prog_6_method_1_code 19 = .ok (.aload_n 0, 1) := by decide +kernel
theorem d_Un_init_20 : decode prog_6_method_1_code 20 = .ok (.iconst (-1), 1) := by decide +kernel
theorem d_Un_init_21 : decode prog_6_method_1_code 21 = .ok (.putfield 21, 3) := by decide +kernel
theorem d_Un_init_24 : decode prog_6_method_1_code 24 = .ok (.aload_n 0, 1) := by decide +kernel
theorem d_Un_init_25 : decode prog_6_method_1_code 25 = .ok (.iconst (-1), 1) := by decide +kernel
theorem d_Un_init_26 : decode prog_6_method_1_code 26 = .ok (.putfield 24, 3) := by decide +kernel
theorem d_Un_init_29 : decode prog_6_method_1_code 29 = .ok (.aload_n 0, 1) := by decide +kernel
theorem d_Un_init_30 : decode prog_6_method_1_code 30 = .ok (.iconst 0, 1) := by decide +kernel
theorem d_Un_init_31 : decode prog_6_method_1_code 31 = .ok (.putfield 27, 3) := by decide +kernel
theorem d_Un_init_34 : decode prog_6_method_1_code 34 = .ok (.aload_n 0, 1) := by decide +kernel
theorem d_Un_init_35 : decode prog_6_method_1_code 35 = .ok (.iconst 0, 1) := by decide +kernel
theorem d_Un_init_36 : decode prog_6_method_1_code 36 = .ok (.putfield 30, 3) := by decide +kernel
theorem d_Un_init_39 : decode prog_6_method_1_code 39 = .ok (.aload_n 0, 1) := by decide +kernel
theorem d_Un_init_40 : decode prog_6_method_1_code 40 = .ok (.iconst (-1), 1) := by decide +kernel
theorem d_Un_init_41 : decode prog_6_method_1_code 41 = .ok (.putfield 33, 3) := by decide +kernel
theorem d_Un_init_44 : decode prog_6_method_1_code 44 = .ok (.return_, 1) := by decide +kernel
theorem d_Un_hasEnded_0 : decode prog_6_method_2_code 0 = .ok (.aload_n 0, 1) := by decide +kernel
theorem d_Un_hasEnded_1 : decode prog_6_method_2_code 1 = .ok (.getfield 9, 3) := by decide +kernel
theorem d_Un_hasEnded_4 : decode prog_6_method_2_code 4 = .ok (.aload_n 0, 1) := by decide +kernel
theorem d_Un_hasEnded_5 : decode prog_6_method_2_code 5 = .ok (.getfield 15, 3) := by decide +kernel
theorem d_Un_hasEnded_8 : decode prog_6_method_2_code 8 = .ok (.if_icmp .le 7, 3) := by decide +kernel
theorem d_Un_hasEnded_11 : decode prog_6_method_2_code 11 = .ok (.iconst 1, 1) := by decide +kernel
theorem d_Un_hasEnded_12 : decode prog_6_method_2_code 12 = .ok (.goto 4, 3) := by decide +kernel
theorem d_Un_hasEnded_15 : decode prog_6_method_2_code 15 = .ok (.iconst 0, 1) := by decide +kernel
theorem d_Un_hasEnded_16 : decode prog_6_method_2_code 16 = .ok (.ireturn, 1) := by decide +kernel
theorem d_Un_acts_0 : decode prog_6_method_3_code 0 = .ok (.aload_n 0, 1) := by decide +kernel
theorem d_Un_acts_1 : decode prog_6_method_3_code 1 = .ok (.getfield 18, 3) := by decide +kernel
theorem d_Un_acts_4 : decode prog_6_method_3_code 4 = .ok (.iconst 2, 1) := by decide +kernel
theorem d_Un_acts_5 : decode prog_6_method_3_code 5 = .ok (.if_icmp .eq 14, 3) := by decide +kernel
theorem d_Un_acts_8 : decode prog_6_method_3_code 8 = .ok (.aload_n 0, 1) := by decide +kernel
theorem d_Un_acts_9 : decode prog_6_method_3_code 9 = .ok (.invokevirtual 36, 3) := by decide +kernel
theorem d_Un_acts_12 : decode prog_6_method_3_code 12 = .ok (.ifCond .ne 7, 3) := by decide +kernel
theorem d_Un_acts_15 : decode prog_6_method_3_code 15 = .ok (.iconst 1, 1) := by decide +kernel
theorem d_Un_acts_16 : decode prog_6_method_3_code 16 = .ok (.goto 4, 3) := by decide +kernel
theorem d_Un_acts_19 : decode prog_6_method_3_code 19 = .ok (.iconst 0, 1) := by decide +kernel
theorem d_Un_acts_20 : decode prog_6_method_3_code 20 = .ok (.ireturn, 1) := by decide +kernel
theorem d_Un_asked_0 : decode prog_6_method_4_code 0 = .ok (.aload_n 0, 1) := by decide +kernel
theorem d_Un_asked_1 : decode prog_6_method_4_code 1 = .ok (.getfield 27, 3) := by decide +kernel
theorem d_Un_asked_4 : decode prog_6_method_4_code 4 = .ok (.aload_n 0, 1) := by decide +kernel
theorem d_Un_asked_5 : decode prog_6_method_4_code 5 = .ok (.getfield 30, 3) := by decide +kernel
theorem d_Un_asked_8 : decode prog_6_method_4_code 8 = .ok (.iconst (-1), 1) := by decide +kernel
theorem d_Un_asked_9 : decode prog_6_method_4_code 9 = .ok (.ixor, 1) := by decide +kernel
theorem d_Un_asked_10 : decode prog_6_method_4_code 10 = .ok (.iand, 1) := by decide +kernel
theorem d_Un_asked_11 : decode prog_6_method_4_code 11 = .ok (.ireturn, 1) := by decide +kernel
theorem d_Un_given_0 : decode prog_6_method_5_code 0 = .ok (.aload_n 0, 1) := by decide +kernel
theorem d_Un_given_1 : decode prog_6_method_5_code 1 = .ok (.getfield 27, 3) := by decide +kernel
theorem d_Un_given_4 : decode prog_6_method_5_code 4 = .ok (.aload_n 0, 1) := by decide +kernel
theorem d_Un_given_5 : decode prog_6_method_5_code 5 = .ok (.getfield 30, 3) := by decide +kernel
theorem d_Un_given_8 : decode prog_6_method_5_code 8 = .ok (.iand, 1) := by decide +kernel
theorem d_Un_given_9 : decode prog_6_method_5_code 9 = .ok (.ireturn, 1) := by decide +kernel
theorem d_En_init_0 : decode prog_3_method_1_code 0 = .ok (.aload_n 0, 1) := by decide +kernel
theorem d_En_init_1 : decode prog_3_method_1_code 1 = .ok (.invokespecial 3, 3) := by decide +kernel
theorem d_En_init_4 : decode prog_3_method_1_code 4 = .ok (.aload_n 0, 1) := by decide +kernel
theorem d_En_init_5 : decode prog_3_method_1_code 5 = .ok (.sipush 300, 3) := by decide +kernel
theorem d_En_init_8 : decode prog_3_method_1_code 8 = .ok (.newarray .int, 2) := by decide +kernel
theorem d_En_init_10 : decode prog_3_method_1_code 10 = .ok (.putfield 9, 3) := by decide +kernel
theorem d_En_init_13 : decode prog_3_method_1_code 13 = .ok (.aload_n 0, 1) := by decide +kernel
theorem d_En_init_14 : decode prog_3_method_1_code 14 = .ok (.sipush 300, 3) := by decide +kernel
theorem d_En_init_17 : decode prog_3_method_1_code 17 = .ok (.newarray .int, 2) := by decide +kernel
theorem d_En_init_19 : decode prog_3_method_1_code 19 = .ok (.putfield 15, 3) := by decide +kernel
theorem d_En_init_22 : decode prog_3_method_1_code 22 = .ok (.aload_n 0, 1) := by decide +kernel
theorem d_En_init_23 : decode prog_3_method_1_code 23 = .ok (.sipush 300, 3) := by decide +kernel
theorem d_En_init_26 : decode prog_3_method_1_code 26 = .ok (.newarray .int, 2) := by decide +kernel
theorem d_En_init_28 : decode prog_3_method_1_code 28 = .ok (.putfield 18, 3) := by decide +kernel
theorem d_En_init_31 : decode prog_3_method_1_code 31 = .ok (.aload_n 0, 1) := by decide +kernel
theorem d_En_init_32 : decode prog_3_method_1_code 32 = .ok (.sipush 300, 3) := by decide +kernel
theorem d_En_init_35 : decode prog_3_method_1_code 35 = .ok (.newarray .int, 2) := by decide +kernel
theorem d_En_init_37 : decode prog_3_method_1_code 37 = .ok (.putfield 21, 3) := by decide +kernel
theorem d_En_init_40 : decode prog_3_method_1_code 40 = .ok (.aload_n 0, 1) := by decide +kernel
theorem d_En_init_41 : decode prog_3_method_1_code 41 = .ok (.sipush 300, 3) := by decide +kernel
theorem d_En_init_44 : decode prog_3_method_1_code 44 = .ok (.newarray .long, 2) := by decide +kernel
theorem d_En_init_46 : decode prog_3_method_1_code 46 = .ok (.putfield 24, 3) := by decide +kernel
theorem d_En_init_49 : decode prog_3_method_1_code 49 = .ok (.aload_n 0, 1) := by decide +kernel
theorem d_En_init_50 : decode prog_3_method_1_code 50 = .ok (.iconst 0, 1) := by decide +kernel
theorem d_En_init_51 : decode prog_3_method_1_code 51 = .ok (.putfield 28, 3) := by decide +kernel
theorem d_En_init_54 : decode prog_3_method_1_code 54 = .ok (.return_, 1) := by decide +kernel
theorem d_En_add_0 : decode prog_3_method_2_code 0 = .ok (.aload_n 0, 1) := by decide +kernel
theorem d_En_add_1 : decode prog_3_method_2_code 1 = .ok (.getfield 28, 3) := by decide +kernel
theorem d_En_add_4 : decode prog_3_method_2_code 4 = .ok (.sipush 300, 3) := by decide +kernel
theorem d_En_add_7 : decode prog_3_method_2_code 7 = .ok (.if_icmp .lt 4, 3) := by decide +kernel
theorem d_En_add_10 : decode prog_3_method_2_code 10 = .ok (.return_, 1) := by decide +kernel
theorem d_En_add_11 : decode prog_3_method_2_code 11 = .ok (.aload_n 0, 1) := by decide +kernel
theorem d_En_add_12 : decode prog_3_method_2_code 12 = .ok (.getfield 9, 3) := by decide +kernel
theorem d_En_add_15 : decode prog_3_method_2_code 15 = .ok (.aload_n 0, 1) := by decide +kernel
theorem d_En_add_16 : decode prog_3_method_2_code 16 = .ok (.getfield 28, 3) := by decide +kernel
theorem d_En_add_19 : decode prog_3_method_2_code 19 = .ok (.iload_n 1, 1) := by decide +kernel
theorem d_En_add_20 : decode prog_3_method_2_code 20 = .ok (.iastore, 1) := by decide +kernel
theorem d_En_add_21 : decode prog_3_method_2_code 21 = .ok (.aload_n 0, 1) := by decide +kernel
theorem d_En_add_22 : decode prog_3_method_2_code 22 = .ok (.getfield 15, 3) := by decide +kernel
theorem d_En_add_25 : decode prog_3_method_2_code 25 = .ok (.aload_n 0, 1) := by decide +kernel
theorem d_En_add_26 : decode prog_3_method_2_code 26 = .ok (.getfield 28, 3) := by decide +kernel
theorem d_En_add_29 : decode prog_3_method_2_code 29 = .ok (.iload_n 2, 1) := by decide +kernel
theorem d_En_add_30 : decode prog_3_method_2_code 30 = .ok (.iastore, 1) := by decide +kernel
theorem d_En_add_31 : decode prog_3_method_2_code 31 = .ok (.aload_n 0, 1) := by decide +kernel
theorem d_En_add_32 : decode prog_3_method_2_code 32 = .ok (.getfield 18, 3) := by decide +kernel
theorem d_En_add_35 : decode prog_3_method_2_code 35 = .ok (.aload_n 0, 1) := by decide +kernel
theorem d_En_add_36 : decode prog_3_method_2_code 36 = .ok (.getfield 28, 3) := by decide +kernel
theorem d_En_add_39 : decode prog_3_method_2_code 39 = .ok (.iload_n 3, 1) := by decide +kernel
theorem d_En_add_40 : decode prog_3_method_2_code 40 = .ok (.iastore, 1) := by decide +kernel
theorem d_En_add_41 : decode prog_3_method_2_code 41 = .ok (.aload_n 0, 1) := by decide +kernel
theorem d_En_add_42 : decode prog_3_method_2_code 42 = .ok (.getfield 21, 3) := by decide +kernel
theorem d_En_add_45 : decode prog_3_method_2_code 45 = .ok (.aload_n 0, 1) := by decide +kernel
theorem d_En_add_46 : decode prog_3_method_2_code 46 = .ok (.getfield 28, 3) := by decide +kernel
theorem d_En_add_49 : decode prog_3_method_2_code 49 = .ok (.iload 4, 2) := by decide +kernel
theorem d_En_add_51 : decode prog_3_method_2_code 51 = .ok (.iastore, 1) := by decide +kernel
theorem d_En_add_52 : decode prog_3_method_2_code 52 = .ok (.aload_n 0, 1) := by decide +kernel
theorem d_En_add_53 : decode prog_3_method_2_code 53 = .ok (.getfield 24, 3) := by decide +kernel
theorem d_En_add_56 : decode prog_3_method_2_code 56 = .ok (.aload_n 0, 1) := by decide +kernel
theorem d_En_add_57 : decode prog_3_method_2_code 57 = .ok (.getfield 28, 3) := by decide +kernel
theorem d_En_add_60 : decode prog_3_method_2_code 60 = .ok (.lload 5, 2) := by decide +kernel
theorem d_En_add_62 : decode prog_3_method_2_code 62 = .ok (.lastore, 1) := by decide +kernel
theorem d_En_add_63 : decode prog_3_method_2_code 63 = .ok (.aload_n 0, 1) := by decide +kernel
theorem d_En_add_64 : decode prog_3_method_2_code 64 = .ok (.dup, 1) := by decide +kernel
theorem d_En_add_65 : decode prog_3_method_2_code 65 = .ok (.getfield 28, 3) := by decide +kernel
theorem d_En_add_68 : decode prog_3_method_2_code 68 = .ok (.iconst 1, 1) := by decide +kernel
theorem d_En_add_69 : decode prog_3_method_2_code 69 = .ok (.iadd, 1) := by decide +kernel
theorem d_En_add_70 : decode prog_3_method_2_code 70 = .ok (.putfield 28, 3) := by decide +kernel
theorem d_En_add_73 : decode prog_3_method_2_code 73 = .ok (.return_, 1) := by decide +kernel
theorem d_En_find_0 : decode prog_3_method_3_code 0 = .ok (.iconst 0, 1) := by decide +kernel
theorem d_En_find_1 : decode prog_3_method_3_code 1 = .ok (.istore 5, 2) := by decide +kernel
theorem d_En_find_3 : decode prog_3_method_3_code 3 = .ok (.iload 5, 2) := by decide +kernel
theorem d_En_find_5 : decode prog_3_method_3_code 5 = .ok (.aload_n 0, 1) := by decide +kernel
theorem d_En_find_6 : decode prog_3_method_3_code 6 = .ok (.getfield 28, 3) := by decide +kernel
theorem d_En_find_9 : decode prog_3_method_3_code 9 = .ok (.if_icmp .ge 57, 3) := by decide +kernel
theorem d_En_find_12 : decode prog_3_method_3_code 12 = .ok (.aload_n 0, 1) := by decide +kernel
theorem d_En_find_13 : decode prog_3_method_3_code 13 = .ok (.getfield 9, 3) := by decide +kernel
theorem d_En_find_16 : decode prog_3_method_3_code 16 = .ok (.iload 5, 2) := by decide +kernel
theorem d_En_find_18 : decode prog_3_method_3_code 18 = .ok (.iaload, 1) := by decide +kernel
theorem d_En_find_19 : decode prog_3_method_3_code 19 = .ok (.iload_n 1, 1) := by decide +kernel
theorem d_En_find_20 : decode prog_3_method_3_code 20 = .ok (.if_icmp .ne 40, 3) := by decide +kernel
theorem d_En_find_23 : decode prog_3_method_3_code 23 = .ok (.aload_n 0, 1) := by decide +kernel
theorem d_En_find_24 : decode prog_3_method_3_code 24 = .ok (.getfield 15, 3) := by decide +kernel
theorem d_En_find_27 : decode prog_3_method_3_code 27 = .ok (.iload 5, 2) := by decide +kernel
theorem d_En_find_29 : decode prog_3_method_3_code 29 = .ok (.iaload, 1) := by decide +kernel
theorem d_En_find_30 : decode prog_3_method_3_code 30 = .ok (.iload_n 2, 1) := by decide +kernel
theorem d_En_find_31 : decode prog_3_method_3_code 31 = .ok (.if_icmp .ne 29, 3) := by decide +kernel
theorem d_En_find_34 : decode prog_3_method_3_code 34 = .ok (.aload_n 0, 1) := by decide +kernel
theorem d_En_find_35 : decode prog_3_method_3_code 35 = .ok (.getfield 18, 3) := by decide +kernel
theorem d_En_find_38 : decode prog_3_method_3_code 38 = .ok (.iload 5, 2) := by decide +kernel
theorem d_En_find_40 : decode prog_3_method_3_code 40 = .ok (.iaload, 1) := by decide +kernel
theorem d_En_find_41 : decode prog_3_method_3_code 41 = .ok (.iload_n 3, 1) := by decide +kernel
theorem d_En_find_42 : decode prog_3_method_3_code 42 = .ok (.if_icmp .ne 18, 3) := by decide +kernel
theorem d_En_find_45 : decode prog_3_method_3_code 45 = .ok (.aload_n 0, 1) := by decide +kernel
theorem d_En_find_46 : decode prog_3_method_3_code 46 = .ok (.getfield 21, 3) := by decide +kernel
theorem d_En_find_49 : decode prog_3_method_3_code 49 = .ok (.iload 5, 2) := by decide +kernel
theorem d_En_find_51 : decode prog_3_method_3_code 51 = .ok (.iaload, 1) := by decide +kernel
theorem d_En_find_52 : decode prog_3_method_3_code 52 = .ok (.iload 4, 2) := by decide +kernel
theorem d_En_find_54 : decode prog_3_method_3_code 54 = .ok (.if_icmp .ne 6, 3) := by decide +kernel
theorem d_En_find_57 : decode prog_3_method_3_code 57 = .ok (.iload 5, 2) := by decide +kernel
theorem d_En_find_59 : decode prog_3_method_3_code 59 = .ok (.ireturn, 1) := by decide +kernel
theorem d_En_find_60 : decode prog_3_method_3_code 60 = .ok (.iinc 5 1, 3) := by decide +kernel
theorem d_En_find_63 : decode prog_3_method_3_code 63 = .ok (.goto (-60), 3) := by decide +kernel
theorem d_En_find_66 : decode prog_3_method_3_code 66 = .ok (.iconst (-1), 1) := by decide +kernel
theorem d_En_find_67 : decode prog_3_method_3_code 67 = .ok (.ireturn, 1) := by decide +kernel
theorem d_En_markThrown_0 : decode prog_3_method_4_code 0 = .ok (.iload_n 1, 1) := by decide +kernel
theorem d_En_markThrown_1 : decode prog_3_method_4_code 1 = .ok (.ifCond .lt 18, 3) := by decide +kernel
theorem d_En_markThrown_4 : decode prog_3_method_4_code 4 = .ok (.iload_n 1, 1) := by decide +kernel
theorem d_En_markThrown_5 : decode prog_3_method_4_code 5 = .ok (.aload_n 0, 1) := by decide +kernel
theorem d_En_markThrown_6 : decode prog_3_method_4_code 6 = .ok (.getfield 28, 3) := by decide +kernel
theorem d_En_markThrown_9 : decode prog_3_method_4_code 9 = .ok (.if_icmp .ge 10, 3) := by decide +kernel
theorem d_En_markThrown_12 : decode prog_3_method_4_code 12 = .ok (.aload_n 0, 1) := by decide +kernel
theorem d_En_markThrown_13 : decode prog_3_method_4_code 13 = .ok (.getfield 9, 3) := by decide +kernel
theorem d_En_markThrown_16 : decode prog_3_method_4_code 16 = .ok (.iload_n 1, 1) := by decide +kernel
theorem d_En_markThrown_17 : decode prog_3_method_4_code 17 = .ok (.iconst 3, 1) := by decide +kernel
theorem d_En_markThrown_18 : decode prog_3_method_4_code 18 = .ok (.iastore, 1) := by decide +kernel
theorem d_En_markThrown_19 : decode prog_3_method_4_code 19 = .ok (.return_, 1) := by decide +kernel
theorem d_En_brief_0 : decode prog_3_method_5_code 0 = .ok (.iconst 0, 1) := by decide +kernel
theorem d_En_brief_1 : decode prog_3_method_5_code 1 = .ok (.istore_n 2, 1) := by decide +kernel
theorem d_En_brief_2 : decode prog_3_method_5_code 2 = .ok (.iload_n 2, 1) := by decide +kernel
theorem d_En_brief_3 : decode prog_3_method_5_code 3 = .ok (.aload_n 1, 1) := by decide +kernel
theorem d_En_brief_4 : decode prog_3_method_5_code 4 = .ok (.arraylength, 1) := by decide +kernel
theorem d_En_brief_5 : decode prog_3_method_5_code 5 = .ok (.if_icmp .ge 30, 3) := by decide +kernel
theorem d_En_brief_8 : decode prog_3_method_5_code 8 = .ok (.aload_n 1, 1) := by decide +kernel
theorem d_En_brief_9 : decode prog_3_method_5_code 9 = .ok (.iload_n 2, 1) := by decide +kernel
theorem d_En_brief_10 : decode prog_3_method_5_code 10 = .ok (.aaload, 1) := by decide +kernel
theorem d_En_brief_11 : decode prog_3_method_5_code 11 = .ok (.iconst (-1), 1) := by decide +kernel
theorem d_En_brief_12 : decode prog_3_method_5_code 12 = .ok (.putfield 32, 3) := by decide +kernel
theorem d_En_brief_15 : decode prog_3_method_5_code 15 = .ok (.aload_n 1, 1) := by decide +kernel
theorem d_En_brief_16 : decode prog_3_method_5_code 16 = .ok (.iload_n 2, 1) := by decide +kernel
theorem d_En_brief_17 : decode prog_3_method_5_code 17 = .ok (.aaload, 1) := by decide +kernel
theorem d_En_brief_18 : decode prog_3_method_5_code 18 = .ok (.iconst 0, 1) := by decide +kernel
theorem d_En_brief_19 : decode prog_3_method_5_code 19 = .ok (.putfield 37, 3) := by decide +kernel
theorem d_En_brief_22 : decode prog_3_method_5_code 22 = .ok (.aload_n 1, 1) := by decide +kernel
theorem d_En_brief_23 : decode prog_3_method_5_code 23 = .ok (.iload_n 2, 1) := by decide +kernel
theorem d_En_brief_24 : decode prog_3_method_5_code 24 = .ok (.aaload, 1) := by decide +kernel
theorem d_En_brief_25 : decode prog_3_method_5_code 25 = .ok (.iconst 0, 1) := by decide +kernel
theorem d_En_brief_26 : decode prog_3_method_5_code 26 = .ok (.putfield 40, 3) := by decide +kernel
theorem d_En_brief_29 : decode prog_3_method_5_code 29 = .ok (.iinc 2 1, 3) := by decide +kernel
theorem d_En_brief_32 : decode prog_3_method_5_code 32 = .ok (.goto (-30), 3) := by decide +kernel
theorem d_En_brief_35 : decode prog_3_method_5_code 35 = .ok (.iconst 0, 1) := by decide +kernel
theorem d_En_brief_36 : decode prog_3_method_5_code 36 = .ok (.istore_n 2, 1) := by decide +kernel
theorem d_En_brief_37 : decode prog_3_method_5_code 37 = .ok (.iload_n 2, 1) := by decide +kernel
theorem d_En_brief_38 : decode prog_3_method_5_code 38 = .ok (.aload_n 0, 1) := by decide +kernel
theorem d_En_brief_39 : decode prog_3_method_5_code 39 = .ok (.getfield 28, 3) := by decide +kernel
theorem d_En_brief_42 : decode prog_3_method_5_code 42 = .ok (.if_icmp .ge 136, 3) := by decide +kernel
theorem d_En_brief_45 : decode prog_3_method_5_code 45 = .ok (.aload_n 1, 1) := by decide +kernel
theorem d_En_brief_46 : decode prog_3_method_5_code 46 = .ok (.aload_n 0, 1) := by decide +kernel
theorem d_En_brief_47 : decode prog_3_method_5_code 47 = .ok (.getfield 15, 3) := by decide +kernel
theorem d_En_brief_50 : decode prog_3_method_5_code 50 = .ok (.iload_n 2, 1) := by decide +kernel
theorem d_En_brief_51 : decode prog_3_method_5_code 51 = .ok (.iaload, 1) := by decide +kernel
theorem d_En_brief_52 : decode prog_3_method_5_code 52 = .ok (.aaload, 1) := by decide +kernel
theorem d_En_brief_53 : decode prog_3_method_5_code 53 = .ok (.astore_n 3, 1) := by decide +kernel
theorem d_En_brief_54 : decode prog_3_method_5_code 54 = .ok (.aload_n 0, 1) := by decide +kernel
theorem d_En_brief_55 : decode prog_3_method_5_code 55 = .ok (.getfield 18, 3) := by decide +kernel
theorem d_En_brief_58 : decode prog_3_method_5_code 58 = .ok (.iload_n 2, 1) := by decide +kernel
theorem d_En_brief_59 : decode prog_3_method_5_code 59 = .ok (.iaload, 1) := by decide +kernel
theorem d_En_brief_60 : decode prog_3_method_5_code 60 = .ok (.aload_n 3, 1) := by decide +kernel
theorem d_En_brief_61 : decode prog_3_method_5_code 61 = .ok (.getfield 43, 3) := by decide +kernel
theorem d_En_brief_64 : decode prog_3_method_5_code 64 = .ok (.if_icmp .ne 7, 3) := by decide +kernel
theorem d_En_brief_67 : decode prog_3_method_5_code 67 = .ok (.iconst 1, 1) := by decide +kernel
theorem d_En_brief_68 : decode prog_3_method_5_code 68 = .ok (.goto 4, 3) := by decide +kernel
theorem d_En_brief_71 : decode prog_3_method_5_code 71 = .ok (.iconst 0, 1) := by decide +kernel
theorem d_En_brief_72 : decode prog_3_method_5_code 72 = .ok (.istore 4, 2) := by decide +kernel
theorem d_En_brief_74 : decode prog_3_method_5_code 74 = .ok (.aload_n 0, 1) := by decide +kernel
theorem d_En_brief_75 : decode prog_3_method_5_code 75 = .ok (.getfield 9, 3) := by decide +kernel
theorem d_En_brief_78 : decode prog_3_method_5_code 78 = .ok (.iload_n 2, 1) := by decide +kernel
theorem d_En_brief_79 : decode prog_3_method_5_code 79 = .ok (.iaload, 1) := by decide +kernel
theorem d_En_brief_80 : decode prog_3_method_5_code 80 = .ok (.iconst 2, 1) := by decide +kernel
theorem d_En_brief_81 : decode prog_3_method_5_code 81 = .ok (.if_icmp .ne 16, 3) := by decide +kernel
theorem d_En_brief_84 : decode prog_3_method_5_code 84 = .ok (.iload 4, 2) := by decide +kernel
theorem d_En_brief_86 : decode prog_3_method_5_code 86 = .ok (.ifCond .eq 11, 3) := by decide +kernel
theorem d_En_brief_89 : decode prog_3_method_5_code 89 = .ok (.aload_n 3, 1) := by decide +kernel
theorem d_En_brief_90 : decode prog_3_method_5_code 90 = .ok (.iload_n 2, 1) := by decide +kernel
theorem d_En_brief_91 : decode prog_3_method_5_code 91 = .ok (.putfield 32, 3) := by decide +kernel
theorem d_En_brief_94 : decode prog_3_method_5_code 94 = .ok (.goto 78, 3) := by decide +kernel
theorem d_En_brief_97 : decode prog_3_method_5_code 97 = .ok (.aload_n 0, 1) := by decide +kernel
theorem d_En_brief_98 : decode prog_3_method_5_code 98 = .ok (.getfield 9, 3) := by decide +kernel
theorem d_En_brief_101 : decode prog_3_method_5_code 101 = .ok (.iload_n 2, 1) := by decide +kernel
theorem d_En_brief_102 : decode prog_3_method_5_code 102 = .ok (.iaload, 1) := by decide +kernel
theorem d_En_brief_103 : decode prog_3_method_5_code 103 = .ok (.iconst 1, 1) := by decide +kernel
theorem d_En_brief_104 : decode prog_3_method_5_code 104 = .ok (.if_icmp .ne 28, 3) := by decide +kernel
theorem d_En_brief_107 : decode prog_3_method_5_code 107 = .ok (.iload 4, 2) := by decide +kernel
theorem d_En_brief_109 : decode prog_3_method_5_code 109 = .ok (.ifCond .eq 23, 3) := by decide +kernel
theorem d_En_brief_112 : decode prog_3_method_5_code 112 = .ok (.aload_n 3, 1) := by decide +kernel
theorem d_En_brief_113 : decode prog_3_method_5_code 113 = .ok (.dup, 1) := by decide +kernel
theorem d_En_brief_114 : decode prog_3_method_5_code 114 = .ok (.getfield 37, 3) := by decide +kernel
theorem d_En_brief_117 : decode prog_3_method_5_code 117 = .ok (.iconst 1, 1) := by decide +kernel
theorem d_En_brief_118 : decode prog_3_method_5_code 118 = .ok (.aload_n 0, 1) := by decide +kernel
theorem d_En_brief_119 : decode prog_3_method_5_code 119 = .ok (.getfield 21, 3) := by decide +kernel
theorem d_En_brief_122 : decode prog_3_method_5_code 122 = .ok (.iload_n 2, 1) := by decide +kernel
theorem d_En_brief_123 : decode prog_3_method_5_code 123 = .ok (.iaload, 1) := by decide +kernel
theorem d_En_brief_124 : decode prog_3_method_5_code 124 = .ok (.ishl, 1) := by decide +kernel
theorem d_En_brief_125 : decode prog_3_method_5_code 125 = .ok (.ior, 1) := by decide +kernel
theorem d_En_brief_126 : decode prog_3_method_5_code 126 = .ok (.putfield 37, 3) := by decide +kernel
theorem d_En_brief_129 : decode prog_3_method_5_code 129 = .ok (.goto 43, 3) := by decide +kernel
theorem d_En_brief_132 : decode prog_3_method_5_code 132 = .ok (.aload_n 0, 1) := by decide +kernel
theorem d_En_brief_133 : decode prog_3_method_5_code 133 = .ok (.getfield 9, 3) := by decide +kernel
theorem d_En_brief_136 : decode prog_3_method_5_code 136 = .ok (.iload_n 2, 1) := by decide +kernel
theorem d_En_brief_137 : decode prog_3_method_5_code 137 = .ok (.iaload, 1) := by decide +kernel
theorem d_En_brief_138 : decode prog_3_method_5_code 138 = .ok (.iconst 1, 1) := by decide +kernel
theorem d_En_brief_139 : decode prog_3_method_5_code 139 = .ok (.if_icmp .ne 33, 3) := by decide +kernel
theorem d_En_brief_142 : decode prog_3_method_5_code 142 = .ok (.aload_n 0, 1) := by decide +kernel
theorem d_En_brief_143 : decode prog_3_method_5_code 143 = .ok (.getfield 18, 3) := by decide +kernel
theorem d_En_brief_146 : decode prog_3_method_5_code 146 = .ok (.iload_n 2, 1) := by decide +kernel
theorem d_En_brief_147 : decode prog_3_method_5_code 147 = .ok (.iaload, 1) := by decide +kernel
theorem d_En_brief_148 : decode prog_3_method_5_code 148 = .ok (.aload_n 3, 1) := by decide +kernel
theorem d_En_brief_149 : decode prog_3_method_5_code 149 = .ok (.getfield 43, 3) := by decide +kernel
theorem d_En_brief_152 : decode prog_3_method_5_code 152 = .ok (.if_icmp .ge 20, 3) := by decide +kernel
theorem d_En_brief_155 : decode prog_3_method_5_code 155 = .ok (.aload_n 3, 1) := by decide +kernel
theorem d_En_brief_156 : decode prog_3_method_5_code 156 = .ok (.dup, 1) := by decide +kernel
theorem d_En_brief_157 : decode prog_3_method_5_code 157 = .ok (.getfield 40, 3) := by decide +kernel
theorem d_En_brief_160 : decode prog_3_method_5_code 160 = .ok (.iconst 1, 1) := by decide +kernel
theorem d_En_brief_161 : decode prog_3_method_5_code 161 = .ok (.aload_n 0, 1) := by decide +kernel
theorem d_En_brief_162 : decode prog_3_method_5_code 162 = .ok (.getfield 21, 3) := by decide +kernel
theorem d_En_brief_165 : decode prog_3_method_5_code 165 = .ok (.iload_n 2, 1) := by decide +kernel
theorem d_En_brief_166 : decode prog_3_method_5_code 166 = .ok (.iaload, 1) := by decide +kernel
theorem d_En_brief_167 : decode prog_3_method_5_code 167 = .ok (.ishl, 1) := by decide +kernel
theorem d_En_brief_168 : decode prog_3_method_5_code 168 = .ok (.ixor, 1) := by decide +kernel
theorem d_En_brief_169 : decode prog_3_method_5_code 169 = .ok (.putfield 40, 3) := by decide +kernel
theorem d_En_brief_172 : decode prog_3_method_5_code 172 = .ok (.iinc 2 1, 3) := by decide +kernel
theorem d_En_brief_175 : decode prog_3_method_5_code 175 = .ok (.goto (-138), 3) := by decide +kernel
theorem d_En_brief_178 : decode prog_3_method_5_code 178 = .ok (.return_, 1) := by decide +kernel
theorem d_En_doSteps_0 : decode prog_3_method_6_code 0 = .ok (.iconst 0, 1) := by decide +kernel
theorem d_En_doSteps_1 : decode prog_3_method_6_code 1 = .ok (.istore_n 3, 1) := by decide +kernel
theorem d_En_doSteps_2 : decode prog_3_method_6_code 2 = .ok (.iload_n 3, 1) := by decide +kernel
theorem d_En_doSteps_3 : decode prog_3_method_6_code 3 = .ok (.aload_n 0, 1) := by decide +kernel
theorem d_En_doSteps_4 : decode prog_3_method_6_code 4 = .ok (.getfield 28, 3) := by decide +kernel
theorem d_En_doSteps_7 : decode prog_3_method_6_code 7 = .ok (.if_icmp .ge 64, 3) := by decide +kernel
theorem d_En_doSteps_10 : decode prog_3_method_6_code 10 = .ok (.aload_n 1, 1) := by decide +kernel
theorem d_En_doSteps_11 : decode prog_3_method_6_code 11 = .ok (.aload_n 0, 1) := by decide +kernel
theorem d_En_doSteps_12 : decode prog_3_method_6_code 12 = .ok (.getfield 15, 3) := by decide +kernel
theorem d_En_doSteps_15 : decode prog_3_method_6_code 15 = .ok (.iload_n 3, 1) := by decide +kernel
theorem d_En_doSteps_16 : decode prog_3_method_6_code 16 = .ok (.iaload, 1) := by decide +kernel
theorem d_En_doSteps_17 : decode prog_3_method_6_code 17 = .ok (.aaload, 1) := by decide +kernel
theorem d_En_doSteps_18 : decode prog_3_method_6_code 18 = .ok (.astore 4, 2) := by decide +kernel
theorem d_En_doSteps_20 : decode prog_3_method_6_code 20 = .ok (.aload_n 0, 1) := by decide +kernel
theorem d_En_doSteps_21 : decode prog_3_method_6_code 21 = .ok (.getfield 9, 3) := by decide +kernel
theorem d_En_doSteps_24 : decode prog_3_method_6_code 24 = .ok (.iload_n 3, 1) := by decide +kernel
theorem d_En_doSteps_25 : decode prog_3_method_6_code 25 = .ok (.iaload, 1) := by decide +kernel
theorem d_En_doSteps_26 : decode prog_3_method_6_code 26 = .ok (.ifCond .ne 39, 3) := by decide +kernel
theorem d_En_doSteps_29 : decode prog_3_method_6_code 29 = .ok (.aload 4, 2) := by decide +kernel
theorem d_En_doSteps_31 : decode prog_3_method_6_code 31 = .ok (.getfield 46, 3) := by decide +kernel
theorem d_En_doSteps_34 : decode prog_3_method_6_code 34 = .ok (.ifCond .ne 31, 3) := by decide +kernel
theorem d_En_doSteps_37 : decode prog_3_method_6_code 37 = .ok (.aload_n 0, 1) := by decide +kernel
theorem d_En_doSteps_38 : decode prog_3_method_6_code 38 = .ok (.getfield 18, 3) := by decide +kernel
theorem d_En_doSteps_41 : decode prog_3_method_6_code 41 = .ok (.iload_n 3, 1) := by decide +kernel
theorem d_En_doSteps_42 : decode prog_3_method_6_code 42 = .ok (.iaload, 1) := by decide +kernel
theorem d_En_doSteps_43 : decode prog_3_method_6_code 43 = .ok (.aload 4, 2) := by decide +kernel
theorem d_En_doSteps_45 : decode prog_3_method_6_code 45 = .ok (.getfield 43, 3) := by decide +kernel
theorem d_En_doSteps_48 : decode prog_3_method_6_code 48 = .ok (.if_icmp .ne 17, 3) := by decide +kernel
theorem d_En_doSteps_51 : decode prog_3_method_6_code 51 = .ok (.aload_n 2, 1) := by decide +kernel
theorem d_En_doSteps_52 : decode prog_3_method_6_code 52 = .ok (.aload_n 0, 1) := by decide +kernel
theorem d_En_doSteps_53 : decode prog_3_method_6_code 53 = .ok (.getfield 21, 3) := by decide +kernel
theorem d_En_doSteps_56 : decode prog_3_method_6_code 56 = .ok (.iload_n 3, 1) := by decide +kernel
theorem d_En_doSteps_57 : decode prog_3_method_6_code 57 = .ok (.iaload, 1) := by decide +kernel
theorem d_En_doSteps_58 : decode prog_3_method_6_code 58 = .ok (.aload_n 0, 1) := by decide +kernel
theorem d_En_doSteps_59 : decode prog_3_method_6_code 59 = .ok (.getfield 24, 3) := by decide +kernel
theorem d_En_doSteps_62 : decode prog_3_method_6_code 62 = .ok (.iload_n 3, 1) := by decide +kernel
theorem d_En_doSteps_63 : decode prog_3_method_6_code 63 = .ok (.laload, 1) := by decide +kernel
theorem d_En_doSteps_64 : decode prog_3_method_6_code 64 = .ok (.lastore, 1) := by decide +kernel
theorem d_En_doSteps_65 : decode prog_3_method_6_code 65 = .ok (.iinc 3 1, 3) := by decide +kernel
theorem d_En_doSteps_68 : decode prog_3_method_6_code 68 = .ok (.goto (-66), 3) := by decide +kernel
theorem d_En_doSteps_71 : decode prog_3_method_6_code 71 = .ok (.return_, 1) := by decide +kernel
theorem d_Or_init_0 : decode prog_4_method_1_code 0 = .ok (.aload_n 0, 1) := by decide +kernel
theorem d_Or_init_1 : decode prog_4_method_1_code 1 = .ok (.invokespecial 1, 3) := by decide +kernel
theorem d_Or_init_4 : decode prog_4_method_1_code 4 = .ok (.aload_n 0, 1) := by decide +kernel
theorem d_Or_init_5 : decode prog_4_method_1_code 5 = .ok (.iconst 0, 1) := by decide +kernel
theorem d_Or_init_6 : decode prog_4_method_1_code 6 = .ok (.putfield 7, 3) := by decide +kernel
theorem d_Or_init_9 : decode prog_4_method_1_code 9 = .ok (.aload_n 0, 1) := by decide +kernel
theorem d_Or_init_10 : decode prog_4_method_1_code 10 = .ok (.lconst 0, 1) := by decide +kernel
theorem d_Or_init_11 : decode prog_4_method_1_code 11 = .ok (.putfield 13, 3) := by decide +kernel
theorem d_Or_init_14 : decode prog_4_method_1_code 14 = .ok (.aload_n 0, 1) := by decide +kernel
theorem d_Or_init_15 : decode prog_4_method_1_code 15 = .ok (.iload_n 1, 1) := by decide +kernel
theorem d_Or_init_16 : decode prog_4_method_1_code 16 = .ok (.newarray .int, 2) := by decide +kernel
theorem d_Or_init_18 : decode prog_4_method_1_code 18 = .ok (.putfield 17, 3) := by decide +kernel
theorem d_Or_init_21 : decode prog_4_method_1_code 21 = .ok (.return_, 1) := by decide +kernel
theorem d_Or_gather_0 : decode prog_4_method_2_code 0 = .ok (.aload_n 0, 1) := by decide +kernel
theorem d_Or_gather_1 : decode prog_4_method_2_code 1 = .ok (.iconst 0, 1) := by decide +kernel
theorem d_Or_gather_2 : decode prog_4_method_2_code 2 = .ok (.putfield 7, 3) := by decide +kernel
theorem d_Or_gather_5 : decode prog_4_method_2_code 5 = .ok (.iconst 0, 1) := by decide +kernel
theorem d_Or_gather_6 : decode prog_4_method_2_code 6 = .ok (.istore_n 2, 1) := by decide +kernel
theorem d_Or_gather_7 : decode prog_4_method_2_code 7 = .ok (.iload_n 2, 1) := by decide +kernel
theorem d_Or_gather_8 : decode prog_4_method_2_code 8 = .ok (.aload_n 1, 1) := by decide +kernel
theorem d_Or_gather_9 : decode prog_4_method_2_code 9 = .ok (.arraylength, 1) := by decide +kernel
theorem d_Or_gather_10 : decode prog_4_method_2_code 10 = .ok (.if_icmp .ge 50, 3) := by decide +kernel
theorem d_Or_gather_13 : decode prog_4_method_2_code 13 = .ok (.aload_n 0, 1) := by decide +kernel
theorem d_Or_gather_14 : decode prog_4_method_2_code 14 = .ok (.getfield 7, 3) := by decide +kernel
theorem d_Or_gather_17 : decode prog_4_method_2_code 17 = .ok (.aload_n 0, 1) := by decide +kernel
theorem d_Or_gather_18 : decode prog_4_method_2_code 18 = .ok (.getfield 17, 3) := by decide +kernel
theorem d_Or_gather_21 : decode prog_4_method_2_code 21 = .ok (.arraylength, 1) := by decide +kernel
theorem d_Or_gather_22 : decode prog_4_method_2_code 22 = .ok (.if_icmp .ge 38, 3) := by decide +kernel
theorem d_Or_gather_25 : decode prog_4_method_2_code 25 = .ok (.aload_n 1, 1) := by decide +kernel
theorem d_Or_gather_26 : decode prog_4_method_2_code 26 = .ok (.iload_n 2, 1) := by decide +kernel
theorem d_Or_gather_27 : decode prog_4_method_2_code 27 = .ok (.aaload, 1) := by decide +kernel
theorem d_Or_gather_28 : decode prog_4_method_2_code 28 = .ok (.invokevirtual 21, 3) := by decide +kernel
theorem d_Or_gather_31 : decode prog_4_method_2_code 31 = .ok (.ifCond .eq 23, 3) := by decide +kernel
theorem d_Or_gather_34 : decode prog_4_method_2_code 34 = .ok (.aload_n 0, 1) := by decide +kernel
theorem d_Or_gather_35 : decode prog_4_method_2_code 35 = .ok (.getfield 17, 3) := by decide +kernel
theorem d_Or_gather_38 : decode prog_4_method_2_code 38 = .ok (.aload_n 0, 1) := by decide +kernel
theorem d_Or_gather_39 : decode prog_4_method_2_code 39 = .ok (.getfield 7, 3) := by decide +kernel
theorem d_Or_gather_42 : decode prog_4_method_2_code 42 = .ok (.iload_n 2, 1) := by decide +kernel
theorem d_Or_gather_43 : decode prog_4_method_2_code 43 = .ok (.iastore, 1) := by decide +kernel
theorem d_Or_gather_44 : decode prog_4_method_2_code 44 = .ok (.aload_n 0, 1) := by decide +kernel
theorem d_Or_gather_45 : decode prog_4_method_2_code 45 = .ok (.dup, 1) := by decide +kernel
theorem d_Or_gather_46 : decode prog_4_method_2_code 46 = .ok (.getfield 7, 3) := by decide +kernel
theorem d_Or_gather_49 : decode prog_4_method_2_code 49 = .ok (.iconst 1, 1) := by decide +kernel
theorem d_Or_gather_50 : decode prog_4_method_2_code 50 = .ok (.iadd, 1) := by decide +kernel
theorem d_Or_gather_51 : decode prog_4_method_2_code 51 = .ok (.putfield 7, 3) := by decide +kernel
theorem d_Or_gather_54 : decode prog_4_method_2_code 54 = .ok (.iinc 2 1, 3) := by decide +kernel
theorem d_Or_gather_57 : decode prog_4_method_2_code 57 = .ok (.goto (-50), 3) := by decide +kernel
theorem d_Or_gather_60 : decode prog_4_method_2_code 60 = .ok (.return_, 1) := by decide +kernel
theorem d_Or_draw_0 : decode prog_4_method_3_code 0 = .ok (.iconst 0, 1) := by decide +kernel
theorem d_Or_draw_1 : decode prog_4_method_3_code 1 = .ok (.istore_n 1, 1) := by decide +kernel
theorem d_Or_draw_2 : decode prog_4_method_3_code 2 = .ok (.iload_n 1, 1) := by decide +kernel
theorem d_Or_draw_3 : decode prog_4_method_3_code 3 = .ok (.aload_n 0, 1) := by decide +kernel
theorem d_Or_draw_4 : decode prog_4_method_3_code 4 = .ok (.getfield 7, 3) := by decide +kernel
theorem d_Or_draw_7 : decode prog_4_method_3_code 7 = .ok (.if_icmp .ge 50, 3) := by decide +kernel
theorem d_Or_draw_10 : decode prog_4_method_3_code 10 = .ok (.aload_n 0, 1) := by decide +kernel
theorem d_Or_draw_11 : decode prog_4_method_3_code 11 = .ok (.aload_n 0, 1) := by decide +kernel
theorem d_Or_draw_12 : decode prog_4_method_3_code 12 = .ok (.getfield 13, 3) := by decide +kernel
theorem d_Or_draw_15 : decode prog_4_method_3_code 15 = .ok (.ldc2_w 27, 3) := by decide +kernel
theorem d_Or_draw_18 : decode prog_4_method_3_code 18 = .ok (.lmul, 1) := by decide +kernel
theorem d_Or_draw_19 : decode prog_4_method_3_code 19 = .ok (.ldc2_w 29, 3) := by decide +kernel
theorem d_Or_draw_22 : decode prog_4_method_3_code 22 = .ok (.ladd, 1) := by decide +kernel
theorem d_Or_draw_23 : decode prog_4_method_3_code 23 = .ok (.putfield 13, 3) := by decide +kernel
theorem d_Or_draw_26 : decode prog_4_method_3_code 26 = .ok (.aload_n 0, 1) := by decide +kernel
theorem d_Or_draw_27 : decode prog_4_method_3_code 27 = .ok (.getfield 13, 3) := by decide +kernel
theorem d_Or_draw_30 : decode prog_4_method_3_code 30 = .ok (.bipush 33, 2) := by decide +kernel
theorem d_Or_draw_32 : decode prog_4_method_3_code 32 = .ok (.lushr, 1) := by decide +kernel
theorem d_Or_draw_33 : decode prog_4_method_3_code 33 = .ok (.aload_n 0, 1) := by decide +kernel
theorem d_Or_draw_34 : decode prog_4_method_3_code 34 = .ok (.getfield 7, 3) := by decide +kernel
theorem d_Or_draw_37 : decode prog_4_method_3_code 37 = .ok (.iload_n 1, 1) := by decide +kernel
theorem d_Or_draw_38 : decode prog_4_method_3_code 38 = .ok (.isub, 1) := by decide +kernel
theorem d_Or_draw_39 : decode prog_4_method_3_code 39 = .ok (.i2l, 1) := by decide +kernel
theorem d_Or_draw_40 : decode prog_4_method_3_code 40 = .ok (.lrem, 1) := by decide +kernel
theorem d_Or_draw_41 : decode prog_4_method_3_code 41 = .ok (.l2i, 1) := by decide +kernel
theorem d_Or_draw_42 : decode prog_4_method_3_code 42 = .ok (.istore_n 2, 1) := by decide +kernel
theorem d_Or_draw_43 : decode prog_4_method_3_code 43 = .ok (.aload_n 0, 1) := by decide +kernel
theorem d_Or_draw_44 : decode prog_4_method_3_code 44 = .ok (.iload_n 1, 1) := by decide +kernel
theorem d_Or_draw_45 : decode prog_4_method_3_code 45 = .ok (.iload_n 2, 1) := by decide +kernel
theorem d_Or_draw_46 : decode prog_4_method_3_code 46 = .ok (.iadd, 1) := by decide +kernel
theorem d_Or_draw_47 : decode prog_4_method_3_code 47 = .ok (.iload_n 1, 1) := by decide +kernel
theorem d_Or_draw_48 : decode prog_4_method_3_code 48 = .ok (.invokevirtual 31, 3) := by decide +kernel
theorem d_Or_draw_51 : decode prog_4_method_3_code 51 = .ok (.iinc 1 1, 3) := by decide +kernel
theorem d_Or_draw_54 : decode prog_4_method_3_code 54 = .ok (.goto (-52), 3) := by decide +kernel
theorem d_Or_draw_57 : decode prog_4_method_3_code 57 = .ok (.return_, 1) := by decide +kernel
theorem d_Or_moveForward_0 : decode prog_4_method_4_code 0 = .ok (.aload_n 0, 1) := by decide +kernel
theorem d_Or_moveForward_1 : decode prog_4_method_4_code 1 = .ok (.getfield 17, 3) := by decide +kernel
theorem d_Or_moveForward_4 : decode prog_4_method_4_code 4 = .ok (.iload_n 1, 1) := by decide +kernel
theorem d_Or_moveForward_5 : decode prog_4_method_4_code 5 = .ok (.iaload, 1) := by decide +kernel
theorem d_Or_moveForward_6 : decode prog_4_method_4_code 6 = .ok (.istore_n 3, 1) := by decide +kernel
theorem d_Or_moveForward_7 : decode prog_4_method_4_code 7 = .ok (.iload_n 1, 1) := by decide +kernel
theorem d_Or_moveForward_8 : decode prog_4_method_4_code 8 = .ok (.istore 4, 2) := by decide +kernel
theorem d_Or_moveForward_10 : decode prog_4_method_4_code 10 = .ok (.iload 4, 2) := by decide +kernel
theorem d_Or_moveForward_12 : decode prog_4_method_4_code 12 = .ok (.iload_n 2, 1) := by decide +kernel
theorem d_Or_moveForward_13 : decode prog_4_method_4_code 13 = .ok (.if_icmp .le 25, 3) := by decide +kernel
theorem d_Or_moveForward_16 : decode prog_4_method_4_code 16 = .ok (.aload_n 0, 1) := by decide +kernel
theorem d_Or_moveForward_17 : decode prog_4_method_4_code 17 = .ok (.getfield 17, 3) := by decide +kernel
theorem d_Or_moveForward_20 : decode prog_4_method_4_code 20 = .ok (.iload 4, 2) := by decide +kernel
theorem d_Or_moveForward_22 : decode prog_4_method_4_code 22 = .ok (.aload_n 0, 1) := by decide +kernel
theorem d_Or_moveForward_23 : decode prog_4_method_4_code 23 = .ok (.getfield 17, 3) := by decide +kernel
theorem d_Or_moveForward_26 : decode prog_4_method_4_code 26 = .ok (.iload 4, 2) := by decide +kernel
theorem d_Or_moveForward_28 : decode prog_4_method_4_code 28 = .ok (.iconst 1, 1) := by decide +kernel
theorem d_Or_moveForward_29 : decode prog_4_method_4_code 29 = .ok (.isub, 1) := by decide +kernel
theorem d_Or_moveForward_30 : decode prog_4_method_4_code 30 = .ok (.iaload, 1) := by decide +kernel
theorem d_Or_moveForward_31 : decode prog_4_method_4_code 31 = .ok (.iastore, 1) := by decide +kernel
theorem d_Or_moveForward_32 : decode prog_4_method_4_code 32 = .ok (.iinc 4 (-1), 3) := by decide +kernel
theorem d_Or_moveForward_35 : decode prog_4_method_4_code 35 = .ok (.goto (-25), 3) := by decide +kernel
theorem d_Or_moveForward_38 : decode prog_4_method_4_code 38 = .ok (.aload_n 0, 1) := by decide +kernel
theorem d_Or_moveForward_39 : decode prog_4_method_4_code 39 = .ok (.getfield 17, 3) := by decide +kernel
theorem d_Or_moveForward_42 : decode prog_4_method_4_code 42 = .ok (.iload_n 2, 1) := by decide +kernel
theorem d_Or_moveForward_43 : decode prog_4_method_4_code 43 = .ok (.iload_n 3, 1) := by decide +kernel
theorem d_Or_moveForward_44 : decode prog_4_method_4_code 44 = .ok (.iastore, 1) := by decide +kernel
theorem d_Or_moveForward_45 : decode prog_4_method_4_code 45 = .ok (.return_, 1) := by decide +kernel
theorem d_Tu_init_0 : decode prog_5_method_1_code 0 = .ok (.aload_n 0, 1) := by decide +kernel
theorem d_Tu_init_1 : decode prog_5_method_1_code 1 = .ok (.invokespecial 3, 3) := by decide +kernel
theorem d_Tu_init_4 : decode prog_5_method_1_code 4 = .ok (.aload_n 0, 1) := by decide +kernel
theorem d_Tu_init_5 : decode prog_5_method_1_code 5 = .ok (.iconst 0, 1) := by decide +kernel
theorem d_Tu_init_6 : decode prog_5_method_1_code 6 = .ok (.putfield 9, 3) := by decide +kernel
theorem d_Tu_init_9 : decode prog_5_method_1_code 9 = .ok (.iload_n 1, 1) := by decide +kernel
theorem d_Tu_init_10 : decode prog_5_method_1_code 10 = .ok (.bipush 64, 2) := by decide +kernel
theorem d_Tu_init_12 : decode prog_5_method_1_code 12 = .ok (.imul, 1) := by decide +kernel
theorem d_Tu_init_13 : decode prog_5_method_1_code 13 = .ok (.istore_n 2, 1) := by decide +kernel
theorem d_Tu_init_14 : decode prog_5_method_1_code 14 = .ok (.aload_n 0, 1) := by decide +kernel
theorem d_Tu_init_15 : decode prog_5_method_1_code 15 = .ok (.iload_n 2, 1) := by decide +kernel
theorem d_Tu_init_16 : decode prog_5_method_1_code 16 = .ok (.newarray .int, 2) := by decide +kernel
theorem d_Tu_init_18 : decode prog_5_method_1_code 18 = .ok (.putfield 15, 3) := by decide +kernel
theorem d_Tu_init_21 : decode prog_5_method_1_code 21 = .ok (.aload_n 0, 1) := by decide +kernel
theorem d_Tu_init_22 : decode prog_5_method_1_code 22 = .ok (.iload_n 2, 1) := by decide +kernel
theorem d_Tu_init_23 : decode prog_5_method_1_code 23 = .ok (.newarray .int, 2) := by decide +kernel
theorem d_Tu_init_25 : decode prog_5_method_1_code 25 = .ok (.putfield 19, 3) := by decide +kernel
theorem d_Tu_init_28 : decode prog_5_method_1_code 28 = .ok (.aload_n 0, 1) := by decide +kernel
theorem d_Tu_init_29 : decode prog_5_method_1_code 29 = .ok (.iload_n 2, 1) := by decide +kernel
theorem d_Tu_init_30 : decode prog_5_method_1_code 30 = .ok (.newarray .int, 2) := by decide +kernel
theorem d_Tu_init_32 : decode prog_5_method_1_code 32 = .ok (.putfield 22, 3) := by decide +kernel
theorem d_Tu_init_35 : decode prog_5_method_1_code 35 = .ok (.return_, 1) := by decide +kernel
theorem d_Tu_add_0 : decode prog_5_method_2_code 0 = .ok (.aload_n 0, 1) := by decide +kernel
theorem d_Tu_add_1 : decode prog_5_method_2_code 1 = .ok (.getfield 9, 3) := by decide +kernel
theorem d_Tu_add_4 : decode prog_5_method_2_code 4 = .ok (.aload_n 0, 1) := by decide +kernel
theorem d_Tu_add_5 : decode prog_5_method_2_code 5 = .ok (.getfield 15, 3) := by decide +kernel
theorem d_Tu_add_8 : decode prog_5_method_2_code 8 = .ok (.arraylength, 1) := by decide +kernel
theorem d_Tu_add_9 : decode prog_5_method_2_code 9 = .ok (.if_icmp .lt 4, 3) := by decide +kernel
theorem d_Tu_add_12 : decode prog_5_method_2_code 12 = .ok (.return_, 1) := by decide +kernel
theorem d_Tu_add_13 : decode prog_5_method_2_code 13 = .ok (.aload_n 0, 1) := by decide +kernel
theorem d_Tu_add_14 : decode prog_5_method_2_code 14 = .ok (.getfield 15, 3) := by decide +kernel
theorem d_Tu_add_17 : decode prog_5_method_2_code 17 = .ok (.aload_n 0, 1) := by decide +kernel
theorem d_Tu_add_18 : decode prog_5_method_2_code 18 = .ok (.getfield 9, 3) := by decide +kernel
theorem d_Tu_add_21 : decode prog_5_method_2_code 21 = .ok (.iload_n 1, 1) := by decide +kernel
theorem d_Tu_add_22 : decode prog_5_method_2_code 22 = .ok (.iastore, 1) := by decide +kernel
theorem d_Tu_add_23 : decode prog_5_method_2_code 23 = .ok (.aload_n 0, 1) := by decide +kernel
theorem d_Tu_add_24 : decode prog_5_method_2_code 24 = .ok (.getfield 19, 3) := by decide +kernel
theorem d_Tu_add_27 : decode prog_5_method_2_code 27 = .ok (.aload_n 0, 1) := by decide +kernel
theorem d_Tu_add_28 : decode prog_5_method_2_code 28 = .ok (.getfield 9, 3) := by decide +kernel
theorem d_Tu_add_31 : decode prog_5_method_2_code 31 = .ok (.iload_n 2, 1) := by decide +kernel
theorem d_Tu_add_32 : decode prog_5_method_2_code 32 = .ok (.iastore, 1) := by decide +kernel
theorem d_Tu_add_33 : decode prog_5_method_2_code 33 = .ok (.aload_n 0, 1) := by decide +kernel
theorem d_Tu_add_34 : decode prog_5_method_2_code 34 = .ok (.getfield 22, 3) := by decide +kernel
theorem d_Tu_add_37 : decode prog_5_method_2_code 37 = .ok (.aload_n 0, 1) := by decide +kernel
theorem d_Tu_add_38 : decode prog_5_method_2_code 38 = .ok (.getfield 9, 3) := by decide +kernel
theorem d_Tu_add_41 : decode prog_5_method_2_code 41 = .ok (.iload_n 3, 1) := by decide +kernel
theorem d_Tu_add_42 : decode prog_5_method_2_code 42 = .ok (.iastore, 1) := by decide +kernel
theorem d_Tu_add_43 : decode prog_5_method_2_code 43 = .ok (.aload_n 0, 1) := by decide +kernel
theorem d_Tu_add_44 : decode prog_5_method_2_code 44 = .ok (.dup, 1) := by decide +kernel
theorem d_Tu_add_45 : decode prog_5_method_2_code 45 = .ok (.getfield 9, 3) := by decide +kernel
theorem d_Tu_add_48 : decode prog_5_method_2_code 48 = .ok (.iconst 1, 1) := by decide +kernel
theorem d_Tu_add_49 : decode prog_5_method_2_code 49 = .ok (.iadd, 1) := by decide +kernel
theorem d_Tu_add_50 : decode prog_5_method_2_code 50 = .ok (.putfield 9, 3) := by decide +kernel
theorem d_Tu_add_53 : decode prog_5_method_2_code 53 = .ok (.return_, 1) := by decide +kernel
theorem d_Tu_look_0 : decode prog_5_method_3_code 0 = .ok (.iload_n 1, 1) := by decide +kernel
theorem d_Tu_look_1 : decode prog_5_method_3_code 1 = .ok (.ifCond .lt 11, 3) := by decide +kernel
theorem d_Tu_look_4 : decode prog_5_method_3_code 4 = .ok (.iload_n 1, 1) := by decide +kernel
theorem d_Tu_look_5 : decode prog_5_method_3_code 5 = .ok (.aload_n 0, 1) := by decide +kernel
theorem d_Tu_look_6 : decode prog_5_method_3_code 6 = .ok (.getfield 9, 3) := by decide +kernel
theorem d_Tu_look_9 : decode prog_5_method_3_code 9 = .ok (.if_icmp .lt 5, 3) := by decide +kernel
theorem d_Tu_look_12 : decode prog_5_method_3_code 12 = .ok (.iconst (-1), 1) := by decide +kernel
theorem d_Tu_look_13 : decode prog_5_method_3_code 13 = .ok (.ireturn, 1) := by decide +kernel
theorem d_Tu_look_14 : decode prog_5_method_3_code 14 = .ok (.iload_n 2, 1) := by decide +kernel
theorem d_Tu_look_15 : decode prog_5_method_3_code 15 = .ok (.tableswitch 46 0 2 #[25, 32, 39], 25) := by decide +kernel
theorem d_Tu_look_40 : decode prog_5_method_3_code 40 = .ok (.aload_n 0, 1) := by decide +kernel
theorem d_Tu_look_41 : decode prog_5_method_3_code 41 = .ok (.getfield 15, 3) := by decide +kernel
theorem d_Tu_look_44 : decode prog_5_method_3_code 44 = .ok (.iload_n 1, 1) := by decide +kernel
theorem d_Tu_look_45 : decode prog_5_method_3_code 45 = .ok (.iaload, 1) := by decide +kernel
theorem d_Tu_look_46 : decode prog_5_method_3_code 46 = .ok (.ireturn, 1) := by decide +kernel
theorem d_Tu_look_47 : decode prog_5_method_3_code 47 = .ok (.aload_n 0, 1) := by decide +kernel
theorem d_Tu_look_48 : decode prog_5_method_3_code 48 = .ok (.getfield 19, 3) := by decide +kernel
theorem d_Tu_look_51 : decode prog_5_method_3_code 51 = .ok (.iload_n 1, 1) := by decide +kernel
theorem d_Tu_look_52 : decode prog_5_method_3_code 52 = .ok (.iaload, 1) := by decide +kernel
theorem d_Tu_look_53 : decode prog_5_method_3_code 53 = .ok (.ireturn, 1) := by decide +kernel
theorem d_Tu_look_54 : decode prog_5_method_3_code 54 = .ok (.aload_n 0, 1) := by decide +kernel
theorem d_Tu_look_55 : decode prog_5_method_3_code 55 = .ok (.getfield 22, 3) := by decide +kernel
theorem d_Tu_look_58 : decode prog_5_method_3_code 58 = .ok (.iload_n 1, 1) := by decide +kernel
theorem d_Tu_look_59 : decode prog_5_method_3_code 59 = .ok (.iaload, 1) := by decide +kernel
theorem d_Tu_look_60 : decode prog_5_method_3_code 60 = .ok (.ireturn, 1) := by decide +kernel
theorem d_Tu_look_61 : decode prog_5_method_3_code 61 = .ok (.iconst (-1), 1) := by decide +kernel
theorem d_Tu_look_62 : decode prog_5_method_3_code 62 = .ok (.ireturn, 1) := by decide +kernel
theorem d_Bo_init_0 : decode prog_2_method_1_code 0 = .ok (.aload_n 0, 1) := by decide +kernel
theorem d_Bo_init_1 : decode prog_2_method_1_code 1 = .ok (.invokespecial 3, 3) := by decide +kernel
theorem d_Bo_init_4 : decode prog_2_method_1_code 4 = .ok (.aload_n 0, 1) := by decide +kernel
theorem d_Bo_init_5 : decode prog_2_method_1_code 5 = .ok (.bipush 16, 2) := by decide +kernel
theorem d_Bo_init_7 : decode prog_2_method_1_code 7 = .ok (.newarray .int, 2) := by decide +kernel
theorem d_Bo_init_9 : decode prog_2_method_1_code 9 = .ok (.putfield 9, 3) := by decide +kernel
theorem d_Bo_init_12 : decode prog_2_method_1_code 12 = .ok (.aload_n 0, 1) := by decide +kernel
theorem d_Bo_init_13 : decode prog_2_method_1_code 13 = .ok (.sipush 1024, 3) := by decide +kernel
theorem d_Bo_init_16 : decode prog_2_method_1_code 16 = .ok (.newarray .int, 2) := by decide +kernel
theorem d_Bo_init_18 : decode prog_2_method_1_code 18 = .ok (.putfield 15, 3) := by decide +kernel
theorem d_Bo_init_21 : decode prog_2_method_1_code 21 = .ok (.aload_n 0, 1) := by decide +kernel
theorem d_Bo_init_22 : decode prog_2_method_1_code 22 = .ok (.iconst 0, 1) := by decide +kernel
theorem d_Bo_init_23 : decode prog_2_method_1_code 23 = .ok (.putfield 18, 3) := by decide +kernel
theorem d_Bo_init_26 : decode prog_2_method_1_code 26 = .ok (.iload_n 1, 1) := by decide +kernel
theorem d_Bo_init_27 : decode prog_2_method_1_code 27 = .ok (.iconst 4, 1) := by decide +kernel
theorem d_Bo_init_28 : decode prog_2_method_1_code 28 = .ok (.imul, 1) := by decide +kernel
theorem d_Bo_init_29 : decode prog_2_method_1_code 29 = .ok (.istore_n 2, 1) := by decide +kernel
theorem d_Bo_init_30 : decode prog_2_method_1_code 30 = .ok (.aload_n 0, 1) := by decide +kernel
theorem d_Bo_init_31 : decode prog_2_method_1_code 31 = .ok (.iload_n 2, 1) := by decide +kernel
theorem d_Bo_init_32 : decode prog_2_method_1_code 32 = .ok (.newarray .long, 2) := by decide +kernel
theorem d_Bo_init_34 : decode prog_2_method_1_code 34 = .ok (.putfield 22, 3) := by decide +kernel
theorem d_Bo_init_37 : decode prog_2_method_1_code 37 = .ok (.aload_n 0, 1) := by decide +kernel
theorem d_Bo_init_38 : decode prog_2_method_1_code 38 = .ok (.iload_n 2, 1) := by decide +kernel
theorem d_Bo_init_39 : decode prog_2_method_1_code 39 = .ok (.newarray .long, 2) := by decide +kernel
theorem d_Bo_init_41 : decode prog_2_method_1_code 41 = .ok (.putfield 26, 3) := by decide +kernel
theorem d_Bo_init_44 : decode prog_2_method_1_code 44 = .ok (.aload_n 0, 1) := by decide +kernel
theorem d_Bo_init_45 : decode prog_2_method_1_code 45 = .ok (.bipush 64, 2) := by decide +kernel
theorem d_Bo_init_47 : decode prog_2_method_1_code 47 = .ok (.iload_n 2, 1) := by decide +kernel
theorem d_Bo_init_48 : decode prog_2_method_1_code 48 = .ok (.imul, 1) := by decide +kernel
theorem d_Bo_init_49 : decode prog_2_method_1_code 49 = .ok (.newarray .long, 2) := by decide +kernel
theorem d_Bo_init_51 : decode prog_2_method_1_code 51 = .ok (.putfield 29, 3) := by decide +kernel
theorem d_Bo_init_54 : decode prog_2_method_1_code 54 = .ok (.aload_n 0, 1) := by decide +kernel
theorem d_Bo_init_55 : decode prog_2_method_1_code 55 = .ok (.getfield 9, 3) := by decide +kernel
theorem d_Bo_init_58 : decode prog_2_method_1_code 58 = .ok (.iconst (-1), 1) := by decide +kernel
theorem d_Bo_init_59 : decode prog_2_method_1_code 59 = .ok (.invokestatic 32, 3) := by decide +kernel
theorem d_Bo_init_62 : decode prog_2_method_1_code 62 = .ok (.return_, 1) := by decide +kernel
theorem d_Bo_hasOutput_0 : decode prog_2_method_2_code 0 = .ok (.iload_n 1, 1) := by decide +kernel
theorem d_Bo_hasOutput_1 : decode prog_2_method_2_code 1 = .ok (.ifCond .lt 16, 3) := by decide +kernel
theorem d_Bo_hasOutput_4 : decode prog_2_method_2_code 4 = .ok (.iload_n 1, 1) := by decide +kernel
theorem d_Bo_hasOutput_5 : decode prog_2_method_2_code 5 = .ok (.aload_n 0, 1) := by decide +kernel
theorem d_Bo_hasOutput_6 : decode prog_2_method_2_code 6 = .ok (.getfield 22, 3) := by decide +kernel
theorem d_Bo_hasOutput_9 : decode prog_2_method_2_code 9 = .ok (.arraylength, 1) := by decide +kernel
theorem d_Bo_hasOutput_10 : decode prog_2_method_2_code 10 = .ok (.if_icmp .ge 7, 3) := by decide +kernel
theorem d_Bo_hasOutput_13 : decode prog_2_method_2_code 13 = .ok (.iconst 1, 1) := by decide +kernel
theorem d_Bo_hasOutput_14 : decode prog_2_method_2_code 14 = .ok (.goto 4, 3) := by decide +kernel
theorem d_Bo_hasOutput_17 : decode prog_2_method_2_code 17 = .ok (.iconst 0, 1) := by decide +kernel
theorem d_Bo_hasOutput_18 : decode prog_2_method_2_code 18 = .ok (.ireturn, 1) := by decide +kernel
theorem d_Bo_wasDone_0 : decode prog_2_method_3_code 0 = .ok (.iload_n 1, 1) := by decide +kernel
theorem d_Bo_wasDone_1 : decode prog_2_method_3_code 1 = .ok (.ifCond .lt 15, 3) := by decide +kernel
theorem d_Bo_wasDone_4 : decode prog_2_method_3_code 4 = .ok (.iload_n 1, 1) := by decide +kernel
theorem d_Bo_wasDone_5 : decode prog_2_method_3_code 5 = .ok (.aload_n 0, 1) := by decide +kernel
theorem d_Bo_wasDone_6 : decode prog_2_method_3_code 6 = .ok (.getfield 18, 3) := by decide +kernel
theorem d_Bo_wasDone_9 : decode prog_2_method_3_code 9 = .ok (.if_icmp .ge 7, 3) := by decide +kernel
theorem d_Bo_wasDone_12 : decode prog_2_method_3_code 12 = .ok (.iconst 1, 1) := by decide +kernel
theorem d_Bo_wasDone_13 : decode prog_2_method_3_code 13 = .ok (.goto 4, 3) := by decide +kernel
theorem d_Bo_wasDone_16 : decode prog_2_method_3_code 16 = .ok (.iconst 0, 1) := by decide +kernel
theorem d_Bo_wasDone_17 : decode prog_2_method_3_code 17 = .ok (.ireturn, 1) := by decide +kernel
theorem d_Bo_valueAt_0 : decode prog_2_method_4_code 0 = .ok (.aload_n 0, 1) := by decide +kernel
theorem d_Bo_valueAt_1 : decode prog_2_method_4_code 1 = .ok (.iload_n 1, 1) := by decide +kernel
theorem d_Bo_valueAt_2 : decode prog_2_method_4_code 2 = .ok (.invokevirtual 38, 3) := by decide +kernel
theorem d_Bo_valueAt_5 : decode prog_2_method_4_code 5 = .ok (.ifCond .ne 5, 3) := by decide +kernel
theorem d_Bo_valueAt_8 : decode prog_2_method_4_code 8 = .ok (.lconst 0, 1) := by decide +kernel
theorem d_Bo_valueAt_9 : decode prog_2_method_4_code 9 = .ok (.lreturn, 1) := by decide +kernel
theorem d_Bo_valueAt_10 : decode prog_2_method_4_code 10 = .ok (.iload_n 2, 1) := by decide +kernel
theorem d_Bo_valueAt_11 : decode prog_2_method_4_code 11 = .ok (.iconst (-1), 1) := by decide +kernel
theorem d_Bo_valueAt_12 : decode prog_2_method_4_code 12 = .ok (.if_icmp .ne 10, 3) := by decide +kernel
theorem d_Bo_valueAt_15 : decode prog_2_method_4_code 15 = .ok (.aload_n 0, 1) := by decide +kernel
theorem d_Bo_valueAt_16 : decode prog_2_method_4_code 16 = .ok (.getfield 22, 3) := by decide +kernel
theorem d_Bo_valueAt_19 : decode prog_2_method_4_code 19 = .ok (.iload_n 1, 1) := by decide +kernel
theorem d_Bo_valueAt_20 : decode prog_2_method_4_code 20 = .ok (.laload, 1) := by decide +kernel
theorem d_Bo_valueAt_21 : decode prog_2_method_4_code 21 = .ok (.lreturn, 1) := by decide +kernel
theorem d_Bo_valueAt_22 : decode prog_2_method_4_code 22 = .ok (.aload_n 0, 1) := by decide +kernel
theorem d_Bo_valueAt_23 : decode prog_2_method_4_code 23 = .ok (.iload_n 2, 1) := by decide +kernel
theorem d_Bo_valueAt_24 : decode prog_2_method_4_code 24 = .ok (.invokevirtual 42, 3) := by decide +kernel
theorem d_Bo_valueAt_27 : decode prog_2_method_4_code 27 = .ok (.ifCond .eq 20, 3) := by decide +kernel
theorem d_Bo_valueAt_30 : decode prog_2_method_4_code 30 = .ok (.aload_n 0, 1) := by decide +kernel
theorem d_Bo_valueAt_31 : decode prog_2_method_4_code 31 = .ok (.getfield 29, 3) := by decide +kernel
theorem d_Bo_valueAt_34 : decode prog_2_method_4_code 34 = .ok (.iload_n 2, 1) := by decide +kernel
theorem d_Bo_valueAt_35 : decode prog_2_method_4_code 35 = .ok (.aload_n 0, 1) := by decide +kernel
theorem d_Bo_valueAt_36 : decode prog_2_method_4_code 36 = .ok (.getfield 22, 3) := by decide +kernel
theorem d_Bo_valueAt_39 : decode prog_2_method_4_code 39 = .ok (.arraylength, 1) := by decide +kernel
theorem d_Bo_valueAt_40 : decode prog_2_method_4_code 40 = .ok (.imul, 1) := by decide +kernel
theorem d_Bo_valueAt_41 : decode prog_2_method_4_code 41 = .ok (.iload_n 1, 1) := by decide +kernel
theorem d_Bo_valueAt_42 : decode prog_2_method_4_code 42 = .ok (.iadd, 1) := by decide +kernel
theorem d_Bo_valueAt_43 : decode prog_2_method_4_code 43 = .ok (.laload, 1) := by decide +kernel
theorem d_Bo_valueAt_44 : decode prog_2_method_4_code 44 = .ok (.goto 4, 3) := by decide +kernel
theorem d_Bo_valueAt_47 : decode prog_2_method_4_code 47 = .ok (.lconst 0, 1) := by decide +kernel
theorem d_Bo_valueAt_48 : decode prog_2_method_4_code 48 = .ok (.lreturn, 1) := by decide +kernel
theorem d_Bo_ownerAt_0 : decode prog_2_method_5_code 0 = .ok (.iload_n 1, 1) := by decide +kernel
theorem d_Bo_ownerAt_1 : decode prog_2_method_5_code 1 = .ok (.invokestatic 45, 3) := by decide +kernel
theorem d_Bo_ownerAt_4 : decode prog_2_method_5_code 4 = .ok (.ifCond .ne 5, 3) := by decide +kernel
theorem d_Bo_ownerAt_7 : decode prog_2_method_5_code 7 = .ok (.iconst (-1), 1) := by decide +kernel
theorem d_Bo_ownerAt_8 : decode prog_2_method_5_code 8 = .ok (.ireturn, 1) := by decide +kernel
theorem d_Bo_ownerAt_9 : decode prog_2_method_5_code 9 = .ok (.iload_n 2, 1) := by decide +kernel
theorem d_Bo_ownerAt_10 : decode prog_2_method_5_code 10 = .ok (.iconst (-1), 1) := by decide +kernel
theorem d_Bo_ownerAt_11 : decode prog_2_method_5_code 11 = .ok (.if_icmp .ne 10, 3) := by decide +kernel
theorem d_Bo_ownerAt_14 : decode prog_2_method_5_code 14 = .ok (.aload_n 0, 1) := by decide +kernel
theorem d_Bo_ownerAt_15 : decode prog_2_method_5_code 15 = .ok (.getfield 9, 3) := by decide +kernel
theorem d_Bo_ownerAt_18 : decode prog_2_method_5_code 18 = .ok (.iload_n 1, 1) := by decide +kernel
theorem d_Bo_ownerAt_19 : decode prog_2_method_5_code 19 = .ok (.iaload, 1) := by decide +kernel
theorem d_Bo_ownerAt_20 : decode prog_2_method_5_code 20 = .ok (.ireturn, 1) := by decide +kernel
theorem d_Bo_ownerAt_21 : decode prog_2_method_5_code 21 = .ok (.aload_n 0, 1) := by decide +kernel
theorem d_Bo_ownerAt_22 : decode prog_2_method_5_code 22 = .ok (.iload_n 2, 1) := by decide +kernel
theorem d_Bo_ownerAt_23 : decode prog_2_method_5_code 23 = .ok (.invokevirtual 42, 3) := by decide +kernel
theorem d_Bo_ownerAt_26 : decode prog_2_method_5_code 26 = .ok (.ifCond .eq 17, 3) := by decide +kernel
theorem d_Bo_ownerAt_29 : decode prog_2_method_5_code 29 = .ok (.aload_n 0, 1) := by decide +kernel
theorem d_Bo_ownerAt_30 : decode prog_2_method_5_code 30 = .ok (.getfield 15, 3) := by decide +kernel
theorem d_Bo_ownerAt_33 : decode prog_2_method_5_code 33 = .ok (.iload_n 2, 1) := by decide +kernel
theorem d_Bo_ownerAt_34 : decode prog_2_method_5_code 34 = .ok (.bipush 16, 2) := by decide +kernel
theorem d_Bo_ownerAt_36 : decode prog_2_method_5_code 36 = .ok (.imul, 1) := by decide +kernel
theorem d_Bo_ownerAt_37 : decode prog_2_method_5_code 37 = .ok (.iload_n 1, 1) := by decide +kernel
theorem d_Bo_ownerAt_38 : decode prog_2_method_5_code 38 = .ok (.iadd, 1) := by decide +kernel
theorem d_Bo_ownerAt_39 : decode prog_2_method_5_code 39 = .ok (.iaload, 1) := by decide +kernel
theorem d_Bo_ownerAt_40 : decode prog_2_method_5_code 40 = .ok (.goto 4, 3) := by decide +kernel
theorem d_Bo_ownerAt_43 : decode prog_2_method_5_code 43 = .ok (.iconst (-1), 1) := by decide +kernel
theorem d_Bo_ownerAt_44 : decode prog_2_method_5_code 44 = .ok (.ireturn, 1) := by decide +kernel
theorem d_Bo_makeSafe_0 : decode prog_2_method_6_code 0 = .ok (.iload_n 1, 1) := by decide +kernel
theorem d_Bo_makeSafe_1 : decode prog_2_method_6_code 1 = .ok (.iconst 4, 1) := by decide +kernel
theorem d_Bo_makeSafe_2 : decode prog_2_method_6_code 2 = .ok (.imul, 1) := by decide +kernel
theorem d_Bo_makeSafe_3 : decode prog_2_method_6_code 3 = .ok (.istore_n 2, 1) := by decide +kernel
theorem d_Bo_makeSafe_4 : decode prog_2_method_6_code 4 = .ok (.iload_n 2, 1) := by decide +kernel
theorem d_Bo_makeSafe_5 : decode prog_2_method_6_code 5 = .ok (.istore_n 3, 1) := by decide +kernel
theorem d_Bo_makeSafe_6 : decode prog_2_method_6_code 6 = .ok (.iload_n 3, 1) := by decide +kernel
theorem d_Bo_makeSafe_7 : decode prog_2_method_6_code 7 = .ok (.iload_n 2, 1) := by decide +kernel
theorem d_Bo_makeSafe_8 : decode prog_2_method_6_code 8 = .ok (.iconst 4, 1) := by decide +kernel
theorem d_Bo_makeSafe_9 : decode prog_2_method_6_code 9 = .ok (.iadd, 1) := by decide +kernel
theorem d_Bo_makeSafe_10 : decode prog_2_method_6_code 10 = .ok (.if_icmp .ge 30, 3) := by decide +kernel
theorem d_Bo_makeSafe_13 : decode prog_2_method_6_code 13 = .ok (.iload_n 3, 1) := by decide +kernel
theorem d_Bo_makeSafe_14 : decode prog_2_method_6_code 14 = .ok (.aload_n 0, 1) := by decide +kernel
theorem d_Bo_makeSafe_15 : decode prog_2_method_6_code 15 = .ok (.getfield 22, 3) := by decide +kernel
theorem d_Bo_makeSafe_18 : decode prog_2_method_6_code 18 = .ok (.arraylength, 1) := by decide +kernel
theorem d_Bo_makeSafe_19 : decode prog_2_method_6_code 19 = .ok (.if_icmp .ge 21, 3) := by decide +kernel
theorem d_Bo_makeSafe_22 : decode prog_2_method_6_code 22 = .ok (.aload_n 0, 1) := by decide +kernel
theorem d_Bo_makeSafe_23 : decode prog_2_method_6_code 23 = .ok (.getfield 22, 3) := by decide +kernel
theorem d_Bo_makeSafe_26 : decode prog_2_method_6_code 26 = .ok (.iload_n 3, 1) := by decide +kernel
theorem d_Bo_makeSafe_27 : decode prog_2_method_6_code 27 = .ok (.aload_n 0, 1) := by decide +kernel
theorem d_Bo_makeSafe_28 : decode prog_2_method_6_code 28 = .ok (.getfield 26, 3) := by decide +kernel
theorem d_Bo_makeSafe_31 : decode prog_2_method_6_code 31 = .ok (.iload_n 3, 1) := by decide +kernel
theorem d_Bo_makeSafe_32 : decode prog_2_method_6_code 32 = .ok (.laload, 1) := by decide +kernel
theorem d_Bo_makeSafe_33 : decode prog_2_method_6_code 33 = .ok (.lastore, 1) := by decide +kernel
theorem d_Bo_makeSafe_34 : decode prog_2_method_6_code 34 = .ok (.iinc 3 1, 3) := by decide +kernel
theorem d_Bo_makeSafe_37 : decode prog_2_method_6_code 37 = .ok (.goto (-31), 3) := by decide +kernel
theorem d_Bo_makeSafe_40 : decode prog_2_method_6_code 40 = .ok (.return_, 1) := by decide +kernel
theorem d_Bo_ownsAll_0 : decode prog_2_method_7_code 0 = .ok (.iconst 0, 1) := by decide +kernel
theorem d_Bo_ownsAll_1 : decode prog_2_method_7_code 1 = .ok (.istore_n 3, 1) := by decide +kernel
theorem d_Bo_ownsAll_2 : decode prog_2_method_7_code 2 = .ok (.iload_n 3, 1) := by decide +kernel
theorem d_Bo_ownsAll_3 : decode prog_2_method_7_code 3 = .ok (.bipush 16, 2) := by decide +kernel
theorem d_Bo_ownsAll_5 : decode prog_2_method_7_code 5 = .ok (.if_icmp .ge 29, 3) := by decide +kernel
theorem d_Bo_ownsAll_8 : decode prog_2_method_7_code 8 = .ok (.iload_n 2, 1) := by decide +kernel
theorem d_Bo_ownsAll_9 : decode prog_2_method_7_code 9 = .ok (.iload_n 3, 1) := by decide +kernel
theorem d_Bo_ownsAll_10 : decode prog_2_method_7_code 10 = .ok (.invokestatic 48, 3) := by decide +kernel
theorem d_Bo_ownsAll_13 : decode prog_2_method_7_code 13 = .ok (.ifCond .eq 15, 3) := by decide +kernel
theorem d_Bo_ownsAll_16 : decode prog_2_method_7_code 16 = .ok (.aload_n 0, 1) := by decide +kernel
theorem d_Bo_ownsAll_17 : decode prog_2_method_7_code 17 = .ok (.getfield 9, 3) := by decide +kernel
theorem d_Bo_ownsAll_20 : decode prog_2_method_7_code 20 = .ok (.iload_n 3, 1) := by decide +kernel
theorem d_Bo_ownsAll_21 : decode prog_2_method_7_code 21 = .ok (.iaload, 1) := by decide +kernel
theorem d_Bo_ownsAll_22 : decode prog_2_method_7_code 22 = .ok (.iload_n 1, 1) := by decide +kernel
theorem d_Bo_ownsAll_23 : decode prog_2_method_7_code 23 = .ok (.if_icmp .eq 5, 3) := by decide +kernel
theorem d_Bo_ownsAll_26 : decode prog_2_method_7_code 26 = .ok (.iconst 0, 1) := by decide +kernel
theorem d_Bo_ownsAll_27 : decode prog_2_method_7_code 27 = .ok (.ireturn, 1) := by decide +kernel
theorem d_Bo_ownsAll_28 : decode prog_2_method_7_code 28 = .ok (.iinc 3 1, 3) := by decide +kernel
theorem d_Bo_ownsAll_31 : decode prog_2_method_7_code 31 = .ok (.goto (-29), 3) := by decide +kernel
theorem d_Bo_ownsAll_34 : decode prog_2_method_7_code 34 = .ok (.iconst 1, 1) := by decide +kernel
theorem d_Bo_ownsAll_35 : decode prog_2_method_7_code 35 = .ok (.ireturn, 1) := by decide +kernel
theorem d_Bo_giveBack_0 : decode prog_2_method_8_code 0 = .ok (.iconst 0, 1) := by decide +kernel
theorem d_Bo_giveBack_1 : decode prog_2_method_8_code 1 = .ok (.istore_n 3, 1) := by decide +kernel
theorem d_Bo_giveBack_2 : decode prog_2_method_8_code 2 = .ok (.iload_n 3, 1) := by decide +kernel
theorem d_Bo_giveBack_3 : decode prog_2_method_8_code 3 = .ok (.bipush 16, 2) := by decide +kernel
theorem d_Bo_giveBack_5 : decode prog_2_method_8_code 5 = .ok (.if_icmp .ge 34, 3) := by decide +kernel
theorem d_Bo_giveBack_8 : decode prog_2_method_8_code 8 = .ok (.iload_n 2, 1) := by decide +kernel
theorem d_Bo_giveBack_9 : decode prog_2_method_8_code 9 = .ok (.iload_n 3, 1) := by decide +kernel
theorem d_Bo_giveBack_10 : decode prog_2_method_8_code 10 = .ok (.invokestatic 48, 3) := by decide +kernel
theorem d_Bo_giveBack_13 : decode prog_2_method_8_code 13 = .ok (.ifCond .eq 20, 3) := by decide +kernel
theorem d_Bo_giveBack_16 : decode prog_2_method_8_code 16 = .ok (.aload_n 0, 1) := by decide +kernel
theorem d_Bo_giveBack_17 : decode prog_2_method_8_code 17 = .ok (.getfield 9, 3) := by decide +kernel
theorem d_Bo_giveBack_20 : decode prog_2_method_8_code 20 = .ok (.iload_n 3, 1) := by decide +kernel
theorem d_Bo_giveBack_21 : decode prog_2_method_8_code 21 = .ok (.iaload, 1) := by decide +kernel
theorem d_Bo_giveBack_22 : decode prog_2_method_8_code 22 = .ok (.iload_n 1, 1) := by decide +kernel
theorem d_Bo_giveBack_23 : decode prog_2_method_8_code 23 = .ok (.if_icmp .ne 10, 3) := by decide +kernel
theorem d_Bo_giveBack_26 : decode prog_2_method_8_code 26 = .ok (.aload_n 0, 1) := by decide +kernel
theorem d_Bo_giveBack_27 : decode prog_2_method_8_code 27 = .ok (.getfield 9, 3) := by decide +kernel
theorem d_Bo_giveBack_30 : decode prog_2_method_8_code 30 = .ok (.iload_n 3, 1) := by decide +kernel
theorem d_Bo_giveBack_31 : decode prog_2_method_8_code 31 = .ok (.iconst (-1), 1) := by decide +kernel
theorem d_Bo_giveBack_32 : decode prog_2_method_8_code 32 = .ok (.iastore, 1) := by decide +kernel
theorem d_Bo_giveBack_33 : decode prog_2_method_8_code 33 = .ok (.iinc 3 1, 3) := by decide +kernel
theorem d_Bo_giveBack_36 : decode prog_2_method_8_code 36 = .ok (.goto (-34), 3) := by decide +kernel
theorem d_Bo_giveBack_39 : decode prog_2_method_8_code 39 = .ok (.return_, 1) := by decide +kernel
theorem d_Bo_keep_0 : decode prog_2_method_9_code 0 = .ok (.aload_n 0, 1) := by decide +kernel
theorem d_Bo_keep_1 : decode prog_2_method_9_code 1 = .ok (.getfield 18, 3) := by decide +kernel
theorem d_Bo_keep_4 : decode prog_2_method_9_code 4 = .ok (.bipush 64, 2) := by decide +kernel
theorem d_Bo_keep_6 : decode prog_2_method_9_code 6 = .ok (.if_icmp .lt 4, 3) := by decide +kernel
theorem d_Bo_keep_9 : decode prog_2_method_9_code 9 = .ok (.return_, 1) := by decide +kernel
theorem d_Bo_keep_10 : decode prog_2_method_9_code 10 = .ok (.aload_n 0, 1) := by decide +kernel
theorem d_Bo_keep_11 : decode prog_2_method_9_code 11 = .ok (.getfield 22, 3) := by decide +kernel
theorem d_Bo_keep_14 : decode prog_2_method_9_code 14 = .ok (.iconst 0, 1) := by decide +kernel
theorem d_Bo_keep_15 : decode prog_2_method_9_code 15 = .ok (.aload_n 0, 1) := by decide +kernel
theorem d_Bo_keep_16 : decode prog_2_method_9_code 16 = .ok (.getfield 29, 3) := by decide +kernel
theorem d_Bo_keep_19 : decode prog_2_method_9_code 19 = .ok (.aload_n 0, 1) := by decide +kernel
theorem d_Bo_keep_20 : decode prog_2_method_9_code 20 = .ok (.getfield 18, 3) := by decide +kernel
theorem d_Bo_keep_23 : decode prog_2_method_9_code 23 = .ok (.aload_n 0, 1) := by decide +kernel
theorem d_Bo_keep_24 : decode prog_2_method_9_code 24 = .ok (.getfield 22, 3) := by decide +kernel
theorem d_Bo_keep_27 : decode prog_2_method_9_code 27 = .ok (.arraylength, 1) := by decide +kernel
theorem d_Bo_keep_28 : decode prog_2_method_9_code 28 = .ok (.imul, 1) := by decide +kernel
theorem d_Bo_keep_29 : decode prog_2_method_9_code 29 = .ok (.aload_n 0, 1) := by decide +kernel
theorem d_Bo_keep_30 : decode prog_2_method_9_code 30 = .ok (.getfield 22, 3) := by decide +kernel
theorem d_Bo_keep_33 : decode prog_2_method_9_code 33 = .ok (.arraylength, 1) := by decide +kernel
theorem d_Bo_keep_34 : decode prog_2_method_9_code 34 = .ok (.invokestatic 52, 3) := by decide +kernel
theorem d_Bo_keep_37 : decode prog_2_method_9_code 37 = .ok (.aload_n 0, 1) := by decide +kernel
theorem d_Bo_keep_38 : decode prog_2_method_9_code 38 = .ok (.getfield 9, 3) := by decide +kernel
theorem d_Bo_keep_41 : decode prog_2_method_9_code 41 = .ok (.iconst 0, 1) := by decide +kernel
theorem d_Bo_keep_42 : decode prog_2_method_9_code 42 = .ok (.aload_n 0, 1) := by decide +kernel
theorem d_Bo_keep_43 : decode prog_2_method_9_code 43 = .ok (.getfield 15, 3) := by decide +kernel
theorem d_Bo_keep_46 : decode prog_2_method_9_code 46 = .ok (.aload_n 0, 1) := by decide +kernel
theorem d_Bo_keep_47 : decode prog_2_method_9_code 47 = .ok (.getfield 18, 3) := by decide +kernel
theorem d_Bo_keep_50 : decode prog_2_method_9_code 50 = .ok (.bipush 16, 2) := by decide +kernel
theorem d_Bo_keep_52 : decode prog_2_method_9_code 52 = .ok (.imul, 1) := by decide +kernel
theorem d_Bo_keep_53 : decode prog_2_method_9_code 53 = .ok (.bipush 16, 2) := by decide +kernel
theorem d_Bo_keep_55 : decode prog_2_method_9_code 55 = .ok (.invokestatic 52, 3) := by decide +kernel
theorem d_Bo_keep_58 : decode prog_2_method_9_code 58 = .ok (.aload_n 0, 1) := by decide +kernel
theorem d_Bo_keep_59 : decode prog_2_method_9_code 59 = .ok (.dup, 1) := by decide +kernel
theorem d_Bo_keep_60 : decode prog_2_method_9_code 60 = .ok (.getfield 18, 3) := by decide +kernel
theorem d_Bo_keep_63 : decode prog_2_method_9_code 63 = .ok (.iconst 1, 1) := by decide +kernel
theorem d_Bo_keep_64 : decode prog_2_method_9_code 64 = .ok (.iadd, 1) := by decide +kernel
theorem d_Bo_keep_65 : decode prog_2_method_9_code 65 = .ok (.putfield 18, 3) := by decide +kernel
theorem d_Bo_keep_68 : decode prog_2_method_9_code 68 = .ok (.return_, 1) := by decide +kernel
theorem d_Bo_shut_0 : decode prog_2_method_10_code 0 = .ok (.aload_n 0, 1) := by decide +kernel
theorem d_Bo_shut_1 : decode prog_2_method_10_code 1 = .ok (.getfield 26, 3) := by decide +kernel
theorem d_Bo_shut_4 : decode prog_2_method_10_code 4 = .ok (.iconst 0, 1) := by decide +kernel
theorem d_Bo_shut_5 : decode prog_2_method_10_code 5 = .ok (.aload_n 0, 1) := by decide +kernel
theorem d_Bo_shut_6 : decode prog_2_method_10_code 6 = .ok (.getfield 22, 3) := by decide +kernel
theorem d_Bo_shut_9 : decode prog_2_method_10_code 9 = .ok (.iconst 0, 1) := by decide +kernel
theorem d_Bo_shut_10 : decode prog_2_method_10_code 10 = .ok (.aload_n 0, 1) := by decide +kernel
theorem d_Bo_shut_11 : decode prog_2_method_10_code 11 = .ok (.getfield 22, 3) := by decide +kernel
theorem d_Bo_shut_14 : decode prog_2_method_10_code 14 = .ok (.arraylength, 1) := by decide +kernel
theorem d_Bo_shut_15 : decode prog_2_method_10_code 15 = .ok (.invokestatic 52, 3) := by decide +kernel
theorem d_Bo_shut_18 : decode prog_2_method_10_code 18 = .ok (.aload_n 0, 1) := by decide +kernel
theorem d_Bo_shut_19 : decode prog_2_method_10_code 19 = .ok (.getfield 9, 3) := by decide +kernel
theorem d_Bo_shut_22 : decode prog_2_method_10_code 22 = .ok (.iconst (-1), 1) := by decide +kernel
theorem d_Bo_shut_23 : decode prog_2_method_10_code 23 = .ok (.invokestatic 32, 3) := by decide +kernel
theorem d_Bo_shut_26 : decode prog_2_method_10_code 26 = .ok (.return_, 1) := by decide +kernel
theorem d_Ar_fill_0 : decode prog_11_method_103_code 0 = .ok (.iconst 0, 1) := by decide +kernel
theorem d_Ar_fill_1 : decode prog_11_method_103_code 1 = .ok (.istore_n 2, 1) := by decide +kernel
theorem d_Ar_fill_2 : decode prog_11_method_103_code 2 = .ok (.aload_n 0, 1) := by decide +kernel
theorem d_Ar_fill_3 : decode prog_11_method_103_code 3 = .ok (.arraylength, 1) := by decide +kernel
theorem d_Ar_fill_4 : decode prog_11_method_103_code 4 = .ok (.istore_n 3, 1) := by decide +kernel
theorem d_Ar_fill_5 : decode prog_11_method_103_code 5 = .ok (.iload_n 2, 1) := by decide +kernel
theorem d_Ar_fill_6 : decode prog_11_method_103_code 6 = .ok (.iload_n 3, 1) := by decide +kernel
theorem d_Ar_fill_7 : decode prog_11_method_103_code 7 = .ok (.if_icmp .ge 13, 3) := by decide +kernel
theorem d_Ar_fill_10 : decode prog_11_method_103_code 10 = .ok (.aload_n 0, 1) := by decide +kernel
theorem d_Ar_fill_11 : decode prog_11_method_103_code 11 = .ok (.iload_n 2, 1) := by decide +kernel
theorem d_Ar_fill_12 : decode prog_11_method_103_code 12 = .ok (.iload_n 1, 1) := by decide +kernel
theorem d_Ar_fill_13 : decode prog_11_method_103_code 13 = .ok (.iastore, 1) := by decide +kernel
theorem d_Ar_fill_14 : decode prog_11_method_103_code 14 = .ok (.iinc 2 1, 3) := by decide +kernel
theorem d_Ar_fill_17 : decode prog_11_method_103_code 17 = .ok (.goto (-12), 3) := by decide +kernel
theorem d_Ar_fill_20 : decode prog_11_method_103_code 20 = .ok (.return_, 1) := by decide +kernel

/-! Decode rows. Own work. -/
theorem d_A_sortOf_0 : decode M_A_sortOf.2.1 0 = .ok (.bipush 68, 2) := by decide +kernel
theorem d_A_sortOf_2 : decode M_A_sortOf.2.1 2 = .ok (.aload_n 0, 1) := by decide +kernel
theorem d_A_sortOf_3 : decode M_A_sortOf.2.1 3 = .ok (.invokestatic 87, 3) := by decide +kernel
theorem d_A_sortOf_6 : decode M_A_sortOf.2.1 6 = .ok (.istore_n 1, 1) := by decide +kernel
theorem d_A_sortOf_7 : decode M_A_sortOf.2.1 7 = .ok (.bipush 77, 2) := by decide +kernel
theorem d_A_sortOf_9 : decode M_A_sortOf.2.1 9 = .ok (.aload_n 0, 1) := by decide +kernel
theorem d_A_sortOf_10 : decode M_A_sortOf.2.1 10 = .ok (.invokestatic 87, 3) := by decide +kernel
theorem d_A_sortOf_13 : decode M_A_sortOf.2.1 13 = .ok (.istore_n 2, 1) := by decide +kernel
theorem d_A_sortOf_14 : decode M_A_sortOf.2.1 14 = .ok (.bipush 82, 2) := by decide +kernel
theorem d_A_sortOf_16 : decode M_A_sortOf.2.1 16 = .ok (.aload_n 0, 1) := by decide +kernel
theorem d_A_sortOf_17 : decode M_A_sortOf.2.1 17 = .ok (.invokestatic 87, 3) := by decide +kernel
theorem d_A_sortOf_20 : decode M_A_sortOf.2.1 20 = .ok (.istore_n 3, 1) := by decide +kernel
theorem d_A_sortOf_21 : decode M_A_sortOf.2.1 21 = .ok (.bipush 84, 2) := by decide +kernel
theorem d_A_sortOf_23 : decode M_A_sortOf.2.1 23 = .ok (.aload_n 0, 1) := by decide +kernel
theorem d_A_sortOf_24 : decode M_A_sortOf.2.1 24 = .ok (.invokestatic 87, 3) := by decide +kernel
theorem d_A_sortOf_27 : decode M_A_sortOf.2.1 27 = .ok (.istore 4, 2) := by decide +kernel
theorem d_A_sortOf_29 : decode M_A_sortOf.2.1 29 = .ok (.aload_n 0, 1) := by decide +kernel
theorem d_A_sortOf_30 : decode M_A_sortOf.2.1 30 = .ok (.invokestatic 90, 3) := by decide +kernel
theorem d_A_sortOf_33 : decode M_A_sortOf.2.1 33 = .ok (.istore 5, 2) := by decide +kernel
theorem d_A_sortOf_35 : decode M_A_sortOf.2.1 35 = .ok (.iload_n 1, 1) := by decide +kernel
theorem d_A_sortOf_36 : decode M_A_sortOf.2.1 36 = .ok (.iconst 1, 1) := by decide +kernel
theorem d_A_sortOf_37 : decode M_A_sortOf.2.1 37 = .ok (.if_icmp .ne 21, 3) := by decide +kernel
theorem d_A_sortOf_40 : decode M_A_sortOf.2.1 40 = .ok (.iload_n 3, 1) := by decide +kernel
theorem d_A_sortOf_41 : decode M_A_sortOf.2.1 41 = .ok (.iconst 1, 1) := by decide +kernel
theorem d_A_sortOf_42 : decode M_A_sortOf.2.1 42 = .ok (.if_icmp .ne 16, 3) := by decide +kernel
theorem d_A_sortOf_45 : decode M_A_sortOf.2.1 45 = .ok (.iload_n 2, 1) := by decide +kernel
theorem d_A_sortOf_46 : decode M_A_sortOf.2.1 46 = .ok (.ifCond .ne 12, 3) := by decide +kernel
theorem d_A_sortOf_49 : decode M_A_sortOf.2.1 49 = .ok (.iload 5, 2) := by decide +kernel
theorem d_A_sortOf_51 : decode M_A_sortOf.2.1 51 = .ok (.iload 4, 2) := by decide +kernel
theorem d_A_sortOf_53 : decode M_A_sortOf.2.1 53 = .ok (.if_icmp .ne 5, 3) := by decide +kernel
theorem d_A_sortOf_56 : decode M_A_sortOf.2.1 56 = .ok (.iconst 1, 1) := by decide +kernel
theorem d_A_sortOf_57 : decode M_A_sortOf.2.1 57 = .ok (.ireturn, 1) := by decide +kernel
theorem d_A_sortOf_58 : decode M_A_sortOf.2.1 58 = .ok (.iload_n 1, 1) := by decide +kernel
theorem d_A_sortOf_59 : decode M_A_sortOf.2.1 59 = .ok (.iconst 1, 1) := by decide +kernel
theorem d_A_sortOf_60 : decode M_A_sortOf.2.1 60 = .ok (.if_icmp .ne 24, 3) := by decide +kernel
theorem d_A_sortOf_63 : decode M_A_sortOf.2.1 63 = .ok (.iload 4, 2) := by decide +kernel
theorem d_A_sortOf_65 : decode M_A_sortOf.2.1 65 = .ok (.ifCond .le 19, 3) := by decide +kernel
theorem d_A_sortOf_68 : decode M_A_sortOf.2.1 68 = .ok (.iload 5, 2) := by decide +kernel
theorem d_A_sortOf_70 : decode M_A_sortOf.2.1 70 = .ok (.ifCond .ne 14, 3) := by decide +kernel
theorem d_A_sortOf_73 : decode M_A_sortOf.2.1 73 = .ok (.aload_n 0, 1) := by decide +kernel
theorem d_A_sortOf_74 : decode M_A_sortOf.2.1 74 = .ok (.arraylength, 1) := by decide +kernel
theorem d_A_sortOf_75 : decode M_A_sortOf.2.1 75 = .ok (.iload 4, 2) := by decide +kernel
theorem d_A_sortOf_77 : decode M_A_sortOf.2.1 77 = .ok (.iconst 2, 1) := by decide +kernel
theorem d_A_sortOf_78 : decode M_A_sortOf.2.1 78 = .ok (.iadd, 1) := by decide +kernel
theorem d_A_sortOf_79 : decode M_A_sortOf.2.1 79 = .ok (.if_icmp .ne 5, 3) := by decide +kernel
theorem d_A_sortOf_82 : decode M_A_sortOf.2.1 82 = .ok (.iconst 2, 1) := by decide +kernel
theorem d_A_sortOf_83 : decode M_A_sortOf.2.1 83 = .ok (.ireturn, 1) := by decide +kernel
theorem d_A_sortOf_84 : decode M_A_sortOf.2.1 84 = .ok (.iload_n 2, 1) := by decide +kernel
theorem d_A_sortOf_85 : decode M_A_sortOf.2.1 85 = .ok (.ifCond .le 15, 3) := by decide +kernel
theorem d_A_sortOf_88 : decode M_A_sortOf.2.1 88 = .ok (.aload_n 0, 1) := by decide +kernel
theorem d_A_sortOf_89 : decode M_A_sortOf.2.1 89 = .ok (.arraylength, 1) := by decide +kernel
theorem d_A_sortOf_90 : decode M_A_sortOf.2.1 90 = .ok (.iload_n 2, 1) := by decide +kernel
theorem d_A_sortOf_91 : decode M_A_sortOf.2.1 91 = .ok (.iconst 1, 1) := by decide +kernel
theorem d_A_sortOf_92 : decode M_A_sortOf.2.1 92 = .ok (.iadd, 1) := by decide +kernel
theorem d_A_sortOf_93 : decode M_A_sortOf.2.1 93 = .ok (.if_icmp .ne 7, 3) := by decide +kernel
theorem d_A_sortOf_96 : decode M_A_sortOf.2.1 96 = .ok (.iconst 3, 1) := by decide +kernel
theorem d_A_sortOf_97 : decode M_A_sortOf.2.1 97 = .ok (.goto 4, 3) := by decide +kernel
theorem d_A_sortOf_100 : decode M_A_sortOf.2.1 100 = .ok (.iconst 0, 1) := by decide +kernel
theorem d_A_sortOf_101 : decode M_A_sortOf.2.1 101 = .ok (.ireturn, 1) := by decide +kernel
theorem d_A_countOf_0 : decode M_A_countOf.2.1 0 = .ok (.iconst 0, 1) := by decide +kernel
theorem d_A_countOf_1 : decode M_A_countOf.2.1 1 = .ok (.istore_n 2, 1) := by decide +kernel
theorem d_A_countOf_2 : decode M_A_countOf.2.1 2 = .ok (.iconst 0, 1) := by decide +kernel
theorem d_A_countOf_3 : decode M_A_countOf.2.1 3 = .ok (.istore_n 3, 1) := by decide +kernel
theorem d_A_countOf_4 : decode M_A_countOf.2.1 4 = .ok (.iload_n 3, 1) := by decide +kernel
theorem d_A_countOf_5 : decode M_A_countOf.2.1 5 = .ok (.aload_n 1, 1) := by decide +kernel
theorem d_A_countOf_6 : decode M_A_countOf.2.1 6 = .ok (.arraylength, 1) := by decide +kernel
theorem d_A_countOf_7 : decode M_A_countOf.2.1 7 = .ok (.if_icmp .ge 22, 3) := by decide +kernel
theorem d_A_countOf_10 : decode M_A_countOf.2.1 10 = .ok (.aload_n 1, 1) := by decide +kernel
theorem d_A_countOf_11 : decode M_A_countOf.2.1 11 = .ok (.iload_n 3, 1) := by decide +kernel
theorem d_A_countOf_12 : decode M_A_countOf.2.1 12 = .ok (.aaload, 1) := by decide +kernel
theorem d_A_countOf_13 : decode M_A_countOf.2.1 13 = .ok (.getfield 81, 3) := by decide +kernel
theorem d_A_countOf_16 : decode M_A_countOf.2.1 16 = .ok (.iload_n 0, 1) := by decide +kernel
theorem d_A_countOf_17 : decode M_A_countOf.2.1 17 = .ok (.if_icmp .ne 6, 3) := by decide +kernel
theorem d_A_countOf_20 : decode M_A_countOf.2.1 20 = .ok (.iinc 2 1, 3) := by decide +kernel
theorem d_A_countOf_23 : decode M_A_countOf.2.1 23 = .ok (.iinc 3 1, 3) := by decide +kernel
theorem d_A_countOf_26 : decode M_A_countOf.2.1 26 = .ok (.goto (-22), 3) := by decide +kernel
theorem d_A_countOf_29 : decode M_A_countOf.2.1 29 = .ok (.iload_n 2, 1) := by decide +kernel
theorem d_A_countOf_30 : decode M_A_countOf.2.1 30 = .ok (.ireturn, 1) := by decide +kernel
theorem d_A_countStarred_0 : decode M_A_countStarred.2.1 0 = .ok (.iconst 0, 1) := by decide +kernel
theorem d_A_countStarred_1 : decode M_A_countStarred.2.1 1 = .ok (.istore_n 1, 1) := by decide +kernel
theorem d_A_countStarred_2 : decode M_A_countStarred.2.1 2 = .ok (.iconst 0, 1) := by decide +kernel
theorem d_A_countStarred_3 : decode M_A_countStarred.2.1 3 = .ok (.istore_n 2, 1) := by decide +kernel
theorem d_A_countStarred_4 : decode M_A_countStarred.2.1 4 = .ok (.iload_n 2, 1) := by decide +kernel
theorem d_A_countStarred_5 : decode M_A_countStarred.2.1 5 = .ok (.aload_n 0, 1) := by decide +kernel
theorem d_A_countStarred_6 : decode M_A_countStarred.2.1 6 = .ok (.arraylength, 1) := by decide +kernel
theorem d_A_countStarred_7 : decode M_A_countStarred.2.1 7 = .ok (.if_icmp .ge 33, 3) := by decide +kernel
theorem d_A_countStarred_10 : decode M_A_countStarred.2.1 10 = .ok (.aload_n 0, 1) := by decide +kernel
theorem d_A_countStarred_11 : decode M_A_countStarred.2.1 11 = .ok (.iload_n 2, 1) := by decide +kernel
theorem d_A_countStarred_12 : decode M_A_countStarred.2.1 12 = .ok (.aaload, 1) := by decide +kernel
theorem d_A_countStarred_13 : decode M_A_countStarred.2.1 13 = .ok (.getfield 81, 3) := by decide +kernel
theorem d_A_countStarred_16 : decode M_A_countStarred.2.1 16 = .ok (.bipush 84, 2) := by decide +kernel
theorem d_A_countStarred_18 : decode M_A_countStarred.2.1 18 = .ok (.if_icmp .ne 16, 3) := by decide +kernel
theorem d_A_countStarred_21 : decode M_A_countStarred.2.1 21 = .ok (.aload_n 0, 1) := by decide +kernel
theorem d_A_countStarred_22 : decode M_A_countStarred.2.1 22 = .ok (.iload_n 2, 1) := by decide +kernel
theorem d_A_countStarred_23 : decode M_A_countStarred.2.1 23 = .ok (.aaload, 1) := by decide +kernel
theorem d_A_countStarred_24 : decode M_A_countStarred.2.1 24 = .ok (.getfield 84, 3) := by decide +kernel
theorem d_A_countStarred_27 : decode M_A_countStarred.2.1 27 = .ok (.iconst (-1), 1) := by decide +kernel
theorem d_A_countStarred_28 : decode M_A_countStarred.2.1 28 = .ok (.if_icmp .ne 6, 3) := by decide +kernel
theorem d_A_countStarred_31 : decode M_A_countStarred.2.1 31 = .ok (.iinc 1 1, 3) := by decide +kernel
theorem d_A_countStarred_34 : decode M_A_countStarred.2.1 34 = .ok (.iinc 2 1, 3) := by decide +kernel
theorem d_A_countStarred_37 : decode M_A_countStarred.2.1 37 = .ok (.goto (-33), 3) := by decide +kernel
theorem d_A_countStarred_40 : decode M_A_countStarred.2.1 40 = .ok (.iload_n 1, 1) := by decide +kernel
theorem d_A_countStarred_41 : decode M_A_countStarred.2.1 41 = .ok (.ireturn, 1) := by decide +kernel
theorem d_A_init_0 : decode M_A_init.2.1 0 = .ok (.aload_n 0, 1) := by decide +kernel
theorem d_A_init_1 : decode M_A_init.2.1 1 = .ok (.invokespecial 3, 3) := by decide +kernel
theorem d_A_init_4 : decode M_A_init.2.1 4 = .ok (.aload_n 0, 1) := by decide +kernel
theorem d_A_init_5 : decode M_A_init.2.1 5 = .ok (.aload_n 1, 1) := by decide +kernel
theorem d_A_init_6 : decode M_A_init.2.1 6 = .ok (.putfield 9, 3) := by decide +kernel
theorem d_A_init_9 : decode M_A_init.2.1 9 = .ok (.aload_n 0, 1) := by decide +kernel
theorem d_A_init_10 : decode M_A_init.2.1 10 = .ok (.bipush 7, 2) := by decide +kernel
theorem d_A_init_12 : decode M_A_init.2.1 12 = .ok (.aload_n 1, 1) := by decide +kernel
theorem d_A_init_13 : decode M_A_init.2.1 13 = .ok (.aload_n 1, 1) := by decide +kernel
theorem d_A_init_14 : decode M_A_init.2.1 14 = .ok (.arraylength, 1) := by decide +kernel
theorem d_A_init_15 : decode M_A_init.2.1 15 = .ok (.invokestatic 15, 3) := by decide +kernel
theorem d_A_init_18 : decode M_A_init.2.1 18 = .ok (.putfield 19, 3) := by decide +kernel
theorem d_A_init_21 : decode M_A_init.2.1 21 = .ok (.aload_n 0, 1) := by decide +kernel
theorem d_A_init_22 : decode M_A_init.2.1 22 = .ok (.iload_n 2, 1) := by decide +kernel
theorem d_A_init_23 : decode M_A_init.2.1 23 = .ok (.putfield 23, 3) := by decide +kernel
theorem d_A_init_26 : decode M_A_init.2.1 26 = .ok (.aload_n 0, 1) := by decide +kernel
theorem d_A_init_27 : decode M_A_init.2.1 27 = .ok (.aload_n 3, 1) := by decide +kernel
theorem d_A_init_28 : decode M_A_init.2.1 28 = .ok (.putfield 26, 3) := by decide +kernel
theorem d_A_init_31 : decode M_A_init.2.1 31 = .ok (.aload_n 0, 1) := by decide +kernel
theorem d_A_init_32 : decode M_A_init.2.1 32 = .ok (.bipush 68, 2) := by decide +kernel
theorem d_A_init_34 : decode M_A_init.2.1 34 = .ok (.aload_n 3, 1) := by decide +kernel
theorem d_A_init_35 : decode M_A_init.2.1 35 = .ok (.invokestatic 30, 3) := by decide +kernel
theorem d_A_init_38 : decode M_A_init.2.1 38 = .ok (.putfield 34, 3) := by decide +kernel
theorem d_A_init_41 : decode M_A_init.2.1 41 = .ok (.aload_n 0, 1) := by decide +kernel
theorem d_A_init_42 : decode M_A_init.2.1 42 = .ok (.bipush 82, 2) := by decide +kernel
theorem d_A_init_44 : decode M_A_init.2.1 44 = .ok (.aload_n 3, 1) := by decide +kernel
theorem d_A_init_45 : decode M_A_init.2.1 45 = .ok (.invokestatic 30, 3) := by decide +kernel
theorem d_A_init_48 : decode M_A_init.2.1 48 = .ok (.putfield 37, 3) := by decide +kernel
theorem d_A_init_51 : decode M_A_init.2.1 51 = .ok (.return_, 1) := by decide +kernel
theorem d_A_numberOf_0 : decode M_A_numberOf.2.1 0 = .ok (.iconst 0, 1) := by decide +kernel
theorem d_A_numberOf_1 : decode M_A_numberOf.2.1 1 = .ok (.istore_n 2, 1) := by decide +kernel
theorem d_A_numberOf_2 : decode M_A_numberOf.2.1 2 = .ok (.iload_n 2, 1) := by decide +kernel
theorem d_A_numberOf_3 : decode M_A_numberOf.2.1 3 = .ok (.aload_n 1, 1) := by decide +kernel
theorem d_A_numberOf_4 : decode M_A_numberOf.2.1 4 = .ok (.arraylength, 1) := by decide +kernel
theorem d_A_numberOf_5 : decode M_A_numberOf.2.1 5 = .ok (.if_icmp .ge 26, 3) := by decide +kernel
theorem d_A_numberOf_8 : decode M_A_numberOf.2.1 8 = .ok (.aload_n 1, 1) := by decide +kernel
theorem d_A_numberOf_9 : decode M_A_numberOf.2.1 9 = .ok (.iload_n 2, 1) := by decide +kernel
theorem d_A_numberOf_10 : decode M_A_numberOf.2.1 10 = .ok (.aaload, 1) := by decide +kernel
theorem d_A_numberOf_11 : decode M_A_numberOf.2.1 11 = .ok (.getfield 81, 3) := by decide +kernel
theorem d_A_numberOf_14 : decode M_A_numberOf.2.1 14 = .ok (.iload_n 0, 1) := by decide +kernel
theorem d_A_numberOf_15 : decode M_A_numberOf.2.1 15 = .ok (.if_icmp .ne 10, 3) := by decide +kernel
theorem d_A_numberOf_18 : decode M_A_numberOf.2.1 18 = .ok (.aload_n 1, 1) := by decide +kernel
theorem d_A_numberOf_19 : decode M_A_numberOf.2.1 19 = .ok (.iload_n 2, 1) := by decide +kernel
theorem d_A_numberOf_20 : decode M_A_numberOf.2.1 20 = .ok (.aaload, 1) := by decide +kernel
theorem d_A_numberOf_21 : decode M_A_numberOf.2.1 21 = .ok (.getfield 84, 3) := by decide +kernel
theorem d_A_numberOf_24 : decode M_A_numberOf.2.1 24 = .ok (.ireturn, 1) := by decide +kernel
theorem d_A_numberOf_25 : decode M_A_numberOf.2.1 25 = .ok (.iinc 2 1, 3) := by decide +kernel
theorem d_A_numberOf_28 : decode M_A_numberOf.2.1 28 = .ok (.goto (-26), 3) := by decide +kernel
theorem d_A_numberOf_31 : decode M_A_numberOf.2.1 31 = .ok (.iconst (-1), 1) := by decide +kernel
theorem d_A_numberOf_32 : decode M_A_numberOf.2.1 32 = .ok (.ireturn, 1) := by decide +kernel
theorem d_G_take_0 : decode M_G_take.2.1 0 = .ok (.aload_n 0, 1) := by decide +kernel
theorem d_G_take_1 : decode M_G_take.2.1 1 = .ok (.invokevirtual 48, 3) := by decide +kernel
theorem d_G_take_4 : decode M_G_take.2.1 4 = .ok (.ifCond .ne 14, 3) := by decide +kernel
theorem d_G_take_7 : decode M_G_take.2.1 7 = .ok (.aload_n 0, 1) := by decide +kernel
theorem d_G_take_8 : decode M_G_take.2.1 8 = .ok (.aload_n 1, 1) := by decide +kernel
theorem d_G_take_9 : decode M_G_take.2.1 9 = .ok (.getfield 45, 3) := by decide +kernel
theorem d_G_take_12 : decode M_G_take.2.1 12 = .ok (.invokevirtual 52, 3) := by decide +kernel
theorem d_G_take_15 : decode M_G_take.2.1 15 = .ok (.ifCond .eq 4, 3) := by decide +kernel
theorem d_G_take_18 : decode M_G_take.2.1 18 = .ok (.return_, 1) := by decide +kernel
theorem d_G_take_19 : decode M_G_take.2.1 19 = .ok (.aload_n 0, 1) := by decide +kernel
theorem d_G_take_20 : decode M_G_take.2.1 20 = .ok (.aload_n 1, 1) := by decide +kernel
theorem d_G_take_21 : decode M_G_take.2.1 21 = .ok (.invokevirtual 56, 3) := by decide +kernel
theorem d_G_take_24 : decode M_G_take.2.1 24 = .ok (.aload_n 0, 1) := by decide +kernel
theorem d_G_take_25 : decode M_G_take.2.1 25 = .ok (.getfield 31, 3) := by decide +kernel
theorem d_G_take_28 : decode M_G_take.2.1 28 = .ok (.aload_n 1, 1) := by decide +kernel
theorem d_G_take_29 : decode M_G_take.2.1 29 = .ok (.getfield 45, 3) := by decide +kernel
theorem d_G_take_32 : decode M_G_take.2.1 32 = .ok (.invokevirtual 60, 3) := by decide +kernel
theorem d_G_take_35 : decode M_G_take.2.1 35 = .ok (.aload_n 0, 1) := by decide +kernel
theorem d_G_take_36 : decode M_G_take.2.1 36 = .ok (.aload_n 1, 1) := by decide +kernel
theorem d_G_take_37 : decode M_G_take.2.1 37 = .ok (.invokevirtual 64, 3) := by decide +kernel
theorem d_G_take_40 : decode M_G_take.2.1 40 = .ok (.iconst 0, 1) := by decide +kernel
theorem d_G_take_41 : decode M_G_take.2.1 41 = .ok (.istore_n 2, 1) := by decide +kernel
theorem d_G_take_42 : decode M_G_take.2.1 42 = .ok (.iload_n 2, 1) := by decide +kernel
theorem d_G_take_43 : decode M_G_take.2.1 43 = .ok (.aload_n 0, 1) := by decide +kernel
theorem d_G_take_44 : decode M_G_take.2.1 44 = .ok (.getfield 17, 3) := by decide +kernel
theorem d_G_take_47 : decode M_G_take.2.1 47 = .ok (.if_icmp .ge 45, 3) := by decide +kernel
theorem d_G_take_50 : decode M_G_take.2.1 50 = .ok (.aload_n 0, 1) := by decide +kernel
theorem d_G_take_51 : decode M_G_take.2.1 51 = .ok (.getfield 11, 3) := by decide +kernel
theorem d_G_take_54 : decode M_G_take.2.1 54 = .ok (.iload_n 2, 1) := by decide +kernel
theorem d_G_take_55 : decode M_G_take.2.1 55 = .ok (.aaload, 1) := by decide +kernel
theorem d_G_take_56 : decode M_G_take.2.1 56 = .ok (.aload_n 1, 1) := by decide +kernel
theorem d_G_take_57 : decode M_G_take.2.1 57 = .ok (.if_acmp .eq 19, 3) := by decide +kernel
theorem d_G_take_60 : decode M_G_take.2.1 60 = .ok (.aload_n 0, 1) := by decide +kernel
theorem d_G_take_61 : decode M_G_take.2.1 61 = .ok (.getfield 11, 3) := by decide +kernel
theorem d_G_take_64 : decode M_G_take.2.1 64 = .ok (.iload_n 2, 1) := by decide +kernel
theorem d_G_take_65 : decode M_G_take.2.1 65 = .ok (.aaload, 1) := by decide +kernel
theorem d_G_take_66 : decode M_G_take.2.1 66 = .ok (.aload_n 1, 1) := by decide +kernel
theorem d_G_take_67 : decode M_G_take.2.1 67 = .ok (.getfield 45, 3) := by decide +kernel
theorem d_G_take_70 : decode M_G_take.2.1 70 = .ok (.invokevirtual 67, 3) := by decide +kernel
theorem d_G_take_73 : decode M_G_take.2.1 73 = .ok (.ifCond .eq 13, 3) := by decide +kernel
theorem d_G_take_76 : decode M_G_take.2.1 76 = .ok (.aload_n 0, 1) := by decide +kernel
theorem d_G_take_77 : decode M_G_take.2.1 77 = .ok (.aload_n 0, 1) := by decide +kernel
theorem d_G_take_78 : decode M_G_take.2.1 78 = .ok (.getfield 11, 3) := by decide +kernel
theorem d_G_take_81 : decode M_G_take.2.1 81 = .ok (.iload_n 2, 1) := by decide +kernel
theorem d_G_take_82 : decode M_G_take.2.1 82 = .ok (.aaload, 1) := by decide +kernel
theorem d_G_take_83 : decode M_G_take.2.1 83 = .ok (.invokevirtual 70, 3) := by decide +kernel
theorem d_G_take_86 : decode M_G_take.2.1 86 = .ok (.iinc 2 1, 3) := by decide +kernel
theorem d_G_take_89 : decode M_G_take.2.1 89 = .ok (.goto (-47), 3) := by decide +kernel
theorem d_G_take_92 : decode M_G_take.2.1 92 = .ok (.return_, 1) := by decide +kernel
theorem d_G_insert_0 : decode M_G_insert.2.1 0 = .ok (.aload_n 0, 1) := by decide +kernel
theorem d_G_insert_1 : decode M_G_insert.2.1 1 = .ok (.getfield 17, 3) := by decide +kernel
theorem d_G_insert_4 : decode M_G_insert.2.1 4 = .ok (.istore_n 2, 1) := by decide +kernel
theorem d_G_insert_5 : decode M_G_insert.2.1 5 = .ok (.iload_n 2, 1) := by decide +kernel
theorem d_G_insert_6 : decode M_G_insert.2.1 6 = .ok (.ifCond .le 41, 3) := by decide +kernel
theorem d_G_insert_9 : decode M_G_insert.2.1 9 = .ok (.aload_n 0, 1) := by decide +kernel
theorem d_G_insert_10 : decode M_G_insert.2.1 10 = .ok (.getfield 11, 3) := by decide +kernel
theorem d_G_insert_13 : decode M_G_insert.2.1 13 = .ok (.iload_n 2, 1) := by decide +kernel
theorem d_G_insert_14 : decode M_G_insert.2.1 14 = .ok (.iconst 1, 1) := by decide +kernel
theorem d_G_insert_15 : decode M_G_insert.2.1 15 = .ok (.isub, 1) := by decide +kernel
theorem d_G_insert_16 : decode M_G_insert.2.1 16 = .ok (.aaload, 1) := by decide +kernel
theorem d_G_insert_17 : decode M_G_insert.2.1 17 = .ok (.getfield 45, 3) := by decide +kernel
theorem d_G_insert_20 : decode M_G_insert.2.1 20 = .ok (.aload_n 1, 1) := by decide +kernel
theorem d_G_insert_21 : decode M_G_insert.2.1 21 = .ok (.getfield 45, 3) := by decide +kernel
theorem d_G_insert_24 : decode M_G_insert.2.1 24 = .ok (.if_icmp .le 23, 3) := by decide +kernel
theorem d_G_insert_27 : decode M_G_insert.2.1 27 = .ok (.aload_n 0, 1) := by decide +kernel
theorem d_G_insert_28 : decode M_G_insert.2.1 28 = .ok (.getfield 11, 3) := by decide +kernel
theorem d_G_insert_31 : decode M_G_insert.2.1 31 = .ok (.iload_n 2, 1) := by decide +kernel
theorem d_G_insert_32 : decode M_G_insert.2.1 32 = .ok (.aload_n 0, 1) := by decide +kernel
theorem d_G_insert_33 : decode M_G_insert.2.1 33 = .ok (.getfield 11, 3) := by decide +kernel
theorem d_G_insert_36 : decode M_G_insert.2.1 36 = .ok (.iload_n 2, 1) := by decide +kernel
theorem d_G_insert_37 : decode M_G_insert.2.1 37 = .ok (.iconst 1, 1) := by decide +kernel
theorem d_G_insert_38 : decode M_G_insert.2.1 38 = .ok (.isub, 1) := by decide +kernel
theorem d_G_insert_39 : decode M_G_insert.2.1 39 = .ok (.aaload, 1) := by decide +kernel
theorem d_G_insert_40 : decode M_G_insert.2.1 40 = .ok (.aastore, 1) := by decide +kernel
theorem d_G_insert_41 : decode M_G_insert.2.1 41 = .ok (.iinc 2 (-1), 3) := by decide +kernel
theorem d_G_insert_44 : decode M_G_insert.2.1 44 = .ok (.goto (-39), 3) := by decide +kernel
theorem d_G_insert_47 : decode M_G_insert.2.1 47 = .ok (.aload_n 0, 1) := by decide +kernel
theorem d_G_insert_48 : decode M_G_insert.2.1 48 = .ok (.getfield 11, 3) := by decide +kernel
theorem d_G_insert_51 : decode M_G_insert.2.1 51 = .ok (.iload_n 2, 1) := by decide +kernel
theorem d_G_insert_52 : decode M_G_insert.2.1 52 = .ok (.aload_n 1, 1) := by decide +kernel
theorem d_G_insert_53 : decode M_G_insert.2.1 53 = .ok (.aastore, 1) := by decide +kernel
theorem d_G_insert_54 : decode M_G_insert.2.1 54 = .ok (.aload_n 0, 1) := by decide +kernel
theorem d_G_insert_55 : decode M_G_insert.2.1 55 = .ok (.dup, 1) := by decide +kernel
theorem d_G_insert_56 : decode M_G_insert.2.1 56 = .ok (.getfield 17, 3) := by decide +kernel
theorem d_G_insert_59 : decode M_G_insert.2.1 59 = .ok (.iconst 1, 1) := by decide +kernel
theorem d_G_insert_60 : decode M_G_insert.2.1 60 = .ok (.iadd, 1) := by decide +kernel
theorem d_G_insert_61 : decode M_G_insert.2.1 61 = .ok (.putfield 17, 3) := by decide +kernel
theorem d_G_insert_64 : decode M_G_insert.2.1 64 = .ok (.return_, 1) := by decide +kernel
theorem d_N_remove_0 : decode M_N_remove.2.1 0 = .ok (.aload_n 0, 1) := by decide +kernel
theorem d_N_remove_1 : decode M_N_remove.2.1 1 = .ok (.iload_n 1, 1) := by decide +kernel
theorem d_N_remove_2 : decode M_N_remove.2.1 2 = .ok (.invokevirtual 17, 3) := by decide +kernel
theorem d_N_remove_5 : decode M_N_remove.2.1 5 = .ok (.istore_n 2, 1) := by decide +kernel
theorem d_N_remove_6 : decode M_N_remove.2.1 6 = .ok (.iload_n 2, 1) := by decide +kernel
theorem d_N_remove_7 : decode M_N_remove.2.1 7 = .ok (.aload_n 0, 1) := by decide +kernel
theorem d_N_remove_8 : decode M_N_remove.2.1 8 = .ok (.getfield 13, 3) := by decide +kernel
theorem d_N_remove_11 : decode M_N_remove.2.1 11 = .ok (.if_icmp .ge 46, 3) := by decide +kernel
theorem d_N_remove_14 : decode M_N_remove.2.1 14 = .ok (.aload_n 0, 1) := by decide +kernel
theorem d_N_remove_15 : decode M_N_remove.2.1 15 = .ok (.getfield 7, 3) := by decide +kernel
theorem d_N_remove_18 : decode M_N_remove.2.1 18 = .ok (.iload_n 2, 1) := by decide +kernel
theorem d_N_remove_19 : decode M_N_remove.2.1 19 = .ok (.iaload, 1) := by decide +kernel
theorem d_N_remove_20 : decode M_N_remove.2.1 20 = .ok (.iload_n 1, 1) := by decide +kernel
theorem d_N_remove_21 : decode M_N_remove.2.1 21 = .ok (.if_icmp .ne 36, 3) := by decide +kernel
theorem d_N_remove_24 : decode M_N_remove.2.1 24 = .ok (.aload_n 0, 1) := by decide +kernel
theorem d_N_remove_25 : decode M_N_remove.2.1 25 = .ok (.getfield 7, 3) := by decide +kernel
theorem d_N_remove_28 : decode M_N_remove.2.1 28 = .ok (.iload_n 2, 1) := by decide +kernel
theorem d_N_remove_29 : decode M_N_remove.2.1 29 = .ok (.iconst 1, 1) := by decide +kernel
theorem d_N_remove_30 : decode M_N_remove.2.1 30 = .ok (.iadd, 1) := by decide +kernel
theorem d_N_remove_31 : decode M_N_remove.2.1 31 = .ok (.aload_n 0, 1) := by decide +kernel
theorem d_N_remove_32 : decode M_N_remove.2.1 32 = .ok (.getfield 7, 3) := by decide +kernel
theorem d_N_remove_35 : decode M_N_remove.2.1 35 = .ok (.iload_n 2, 1) := by decide +kernel
theorem d_N_remove_36 : decode M_N_remove.2.1 36 = .ok (.aload_n 0, 1) := by decide +kernel
theorem d_N_remove_37 : decode M_N_remove.2.1 37 = .ok (.getfield 13, 3) := by decide +kernel
theorem d_N_remove_40 : decode M_N_remove.2.1 40 = .ok (.iload_n 2, 1) := by decide +kernel
theorem d_N_remove_41 : decode M_N_remove.2.1 41 = .ok (.isub, 1) := by decide +kernel
theorem d_N_remove_42 : decode M_N_remove.2.1 42 = .ok (.iconst 1, 1) := by decide +kernel
theorem d_N_remove_43 : decode M_N_remove.2.1 43 = .ok (.isub, 1) := by decide +kernel
theorem d_N_remove_44 : decode M_N_remove.2.1 44 = .ok (.invokestatic 27, 3) := by decide +kernel
theorem d_N_remove_47 : decode M_N_remove.2.1 47 = .ok (.aload_n 0, 1) := by decide +kernel
theorem d_N_remove_48 : decode M_N_remove.2.1 48 = .ok (.dup, 1) := by decide +kernel
theorem d_N_remove_49 : decode M_N_remove.2.1 49 = .ok (.getfield 13, 3) := by decide +kernel
theorem d_N_remove_52 : decode M_N_remove.2.1 52 = .ok (.iconst 1, 1) := by decide +kernel
theorem d_N_remove_53 : decode M_N_remove.2.1 53 = .ok (.isub, 1) := by decide +kernel
theorem d_N_remove_54 : decode M_N_remove.2.1 54 = .ok (.putfield 13, 3) := by decide +kernel
theorem d_N_remove_57 : decode M_N_remove.2.1 57 = .ok (.return_, 1) := by decide +kernel
theorem d_N_placeOf_0 : decode M_N_placeOf.2.1 0 = .ok (.iconst 0, 1) := by decide +kernel
theorem d_N_placeOf_1 : decode M_N_placeOf.2.1 1 = .ok (.istore_n 2, 1) := by decide +kernel
theorem d_N_placeOf_2 : decode M_N_placeOf.2.1 2 = .ok (.sipush 512, 3) := by decide +kernel
theorem d_N_placeOf_5 : decode M_N_placeOf.2.1 5 = .ok (.istore_n 3, 1) := by decide +kernel
theorem d_N_placeOf_6 : decode M_N_placeOf.2.1 6 = .ok (.iload_n 3, 1) := by decide +kernel
theorem d_N_placeOf_7 : decode M_N_placeOf.2.1 7 = .ok (.ifCond .le 38, 3) := by decide +kernel
theorem d_N_placeOf_10 : decode M_N_placeOf.2.1 10 = .ok (.iload_n 2, 1) := by decide +kernel
theorem d_N_placeOf_11 : decode M_N_placeOf.2.1 11 = .ok (.iload_n 3, 1) := by decide +kernel
theorem d_N_placeOf_12 : decode M_N_placeOf.2.1 12 = .ok (.iadd, 1) := by decide +kernel
theorem d_N_placeOf_13 : decode M_N_placeOf.2.1 13 = .ok (.aload_n 0, 1) := by decide +kernel
theorem d_N_placeOf_14 : decode M_N_placeOf.2.1 14 = .ok (.getfield 13, 3) := by decide +kernel
theorem d_N_placeOf_17 : decode M_N_placeOf.2.1 17 = .ok (.if_icmp .gt 21, 3) := by decide +kernel
theorem d_N_placeOf_20 : decode M_N_placeOf.2.1 20 = .ok (.aload_n 0, 1) := by decide +kernel
theorem d_N_placeOf_21 : decode M_N_placeOf.2.1 21 = .ok (.getfield 7, 3) := by decide +kernel
theorem d_N_placeOf_24 : decode M_N_placeOf.2.1 24 = .ok (.iload_n 2, 1) := by decide +kernel
theorem d_N_placeOf_25 : decode M_N_placeOf.2.1 25 = .ok (.iload_n 3, 1) := by decide +kernel
theorem d_N_placeOf_26 : decode M_N_placeOf.2.1 26 = .ok (.iadd, 1) := by decide +kernel
theorem d_N_placeOf_27 : decode M_N_placeOf.2.1 27 = .ok (.iconst 1, 1) := by decide +kernel
theorem d_N_placeOf_28 : decode M_N_placeOf.2.1 28 = .ok (.isub, 1) := by decide +kernel
theorem d_N_placeOf_29 : decode M_N_placeOf.2.1 29 = .ok (.iaload, 1) := by decide +kernel
theorem d_N_placeOf_30 : decode M_N_placeOf.2.1 30 = .ok (.iload_n 1, 1) := by decide +kernel
theorem d_N_placeOf_31 : decode M_N_placeOf.2.1 31 = .ok (.if_icmp .ge 7, 3) := by decide +kernel
theorem d_N_placeOf_34 : decode M_N_placeOf.2.1 34 = .ok (.iload_n 2, 1) := by decide +kernel
theorem d_N_placeOf_35 : decode M_N_placeOf.2.1 35 = .ok (.iload_n 3, 1) := by decide +kernel
theorem d_N_placeOf_36 : decode M_N_placeOf.2.1 36 = .ok (.iadd, 1) := by decide +kernel
theorem d_N_placeOf_37 : decode M_N_placeOf.2.1 37 = .ok (.istore_n 2, 1) := by decide +kernel
theorem d_N_placeOf_38 : decode M_N_placeOf.2.1 38 = .ok (.iload_n 3, 1) := by decide +kernel
theorem d_N_placeOf_39 : decode M_N_placeOf.2.1 39 = .ok (.iconst 2, 1) := by decide +kernel
theorem d_N_placeOf_40 : decode M_N_placeOf.2.1 40 = .ok (.idiv, 1) := by decide +kernel
theorem d_N_placeOf_41 : decode M_N_placeOf.2.1 41 = .ok (.istore_n 3, 1) := by decide +kernel
theorem d_N_placeOf_42 : decode M_N_placeOf.2.1 42 = .ok (.goto (-36), 3) := by decide +kernel
theorem d_N_placeOf_45 : decode M_N_placeOf.2.1 45 = .ok (.iload_n 2, 1) := by decide +kernel
theorem d_N_placeOf_46 : decode M_N_placeOf.2.1 46 = .ok (.ireturn, 1) := by decide +kernel
theorem d_G_noteNamesOf_0 : decode M_G_noteNamesOf.2.1 0 = .ok (.iconst 0, 1) := by decide +kernel
theorem d_G_noteNamesOf_1 : decode M_G_noteNamesOf.2.1 1 = .ok (.istore_n 2, 1) := by decide +kernel
theorem d_G_noteNamesOf_2 : decode M_G_noteNamesOf.2.1 2 = .ok (.iload_n 2, 1) := by decide +kernel
theorem d_G_noteNamesOf_3 : decode M_G_noteNamesOf.2.1 3 = .ok (.aload_n 1, 1) := by decide +kernel
theorem d_G_noteNamesOf_4 : decode M_G_noteNamesOf.2.1 4 = .ok (.getfield 77, 3) := by decide +kernel
theorem d_G_noteNamesOf_7 : decode M_G_noteNamesOf.2.1 7 = .ok (.arraylength, 1) := by decide +kernel
theorem d_G_noteNamesOf_8 : decode M_G_noteNamesOf.2.1 8 = .ok (.if_icmp .ge 59, 3) := by decide +kernel
theorem d_G_noteNamesOf_11 : decode M_G_noteNamesOf.2.1 11 = .ok (.aload_n 1, 1) := by decide +kernel
theorem d_G_noteNamesOf_12 : decode M_G_noteNamesOf.2.1 12 = .ok (.getfield 77, 3) := by decide +kernel
theorem d_G_noteNamesOf_15 : decode M_G_noteNamesOf.2.1 15 = .ok (.iload_n 2, 1) := by decide +kernel
theorem d_G_noteNamesOf_16 : decode M_G_noteNamesOf.2.1 16 = .ok (.aaload, 1) := by decide +kernel
theorem d_G_noteNamesOf_17 : decode M_G_noteNamesOf.2.1 17 = .ok (.astore_n 3, 1) := by decide +kernel
theorem d_G_noteNamesOf_18 : decode M_G_noteNamesOf.2.1 18 = .ok (.aload_n 3, 1) := by decide +kernel
theorem d_G_noteNamesOf_19 : decode M_G_noteNamesOf.2.1 19 = .ok (.invokevirtual 81, 3) := by decide +kernel
theorem d_G_noteNamesOf_22 : decode M_G_noteNamesOf.2.1 22 = .ok (.ifCond .eq 19, 3) := by decide +kernel
theorem d_G_noteNamesOf_25 : decode M_G_noteNamesOf.2.1 25 = .ok (.aload_n 0, 1) := by decide +kernel
theorem d_G_noteNamesOf_26 : decode M_G_noteNamesOf.2.1 26 = .ok (.aload_n 3, 1) := by decide +kernel
theorem d_G_noteNamesOf_27 : decode M_G_noteNamesOf.2.1 27 = .ok (.getfield 86, 3) := by decide +kernel
theorem d_G_noteNamesOf_30 : decode M_G_noteNamesOf.2.1 30 = .ok (.invokevirtual 89, 3) := by decide +kernel
theorem d_G_noteNamesOf_33 : decode M_G_noteNamesOf.2.1 33 = .ok (.aload_n 0, 1) := by decide +kernel
theorem d_G_noteNamesOf_34 : decode M_G_noteNamesOf.2.1 34 = .ok (.aload_n 3, 1) := by decide +kernel
theorem d_G_noteNamesOf_35 : decode M_G_noteNamesOf.2.1 35 = .ok (.getfield 92, 3) := by decide +kernel
theorem d_G_noteNamesOf_38 : decode M_G_noteNamesOf.2.1 38 = .ok (.invokevirtual 89, 3) := by decide +kernel
theorem d_G_noteNamesOf_41 : decode M_G_noteNamesOf.2.1 41 = .ok (.aload_n 3, 1) := by decide +kernel
theorem d_G_noteNamesOf_42 : decode M_G_noteNamesOf.2.1 42 = .ok (.getfield 95, 3) := by decide +kernel
theorem d_G_noteNamesOf_45 : decode M_G_noteNamesOf.2.1 45 = .ok (.bipush 77, 2) := by decide +kernel
theorem d_G_noteNamesOf_47 : decode M_G_noteNamesOf.2.1 47 = .ok (.if_icmp .ne 14, 3) := by decide +kernel
theorem d_G_noteNamesOf_50 : decode M_G_noteNamesOf.2.1 50 = .ok (.aload_n 0, 1) := by decide +kernel
theorem d_G_noteNamesOf_51 : decode M_G_noteNamesOf.2.1 51 = .ok (.getfield 35, 3) := by decide +kernel
theorem d_G_noteNamesOf_54 : decode M_G_noteNamesOf.2.1 54 = .ok (.aload_n 3, 1) := by decide +kernel
theorem d_G_noteNamesOf_55 : decode M_G_noteNamesOf.2.1 55 = .ok (.getfield 86, 3) := by decide +kernel
theorem d_G_noteNamesOf_58 : decode M_G_noteNamesOf.2.1 58 = .ok (.invokevirtual 98, 3) := by decide +kernel
theorem d_G_noteNamesOf_61 : decode M_G_noteNamesOf.2.1 61 = .ok (.iinc 2 1, 3) := by decide +kernel
theorem d_G_noteNamesOf_64 : decode M_G_noteNamesOf.2.1 64 = .ok (.goto (-62), 3) := by decide +kernel
theorem d_G_noteNamesOf_67 : decode M_G_noteNamesOf.2.1 67 = .ok (.return_, 1) := by decide +kernel
theorem d_C_namesWhatIsNeeded_0 : decode M_C_namesWhatIsNeeded.2.1 0 = .ok (.aload_n 0, 1) := by decide +kernel
theorem d_C_namesWhatIsNeeded_1 : decode M_C_namesWhatIsNeeded.2.1 1 = .ok (.getfield 9, 3) := by decide +kernel
theorem d_C_namesWhatIsNeeded_4 : decode M_C_namesWhatIsNeeded.2.1 4 = .ok (.bipush 70, 2) := by decide +kernel
theorem d_C_namesWhatIsNeeded_6 : decode M_C_namesWhatIsNeeded.2.1 6 = .ok (.if_icmp .eq 21, 3) := by decide +kernel
theorem d_C_namesWhatIsNeeded_9 : decode M_C_namesWhatIsNeeded.2.1 9 = .ok (.aload_n 0, 1) := by decide +kernel
theorem d_C_namesWhatIsNeeded_10 : decode M_C_namesWhatIsNeeded.2.1 10 = .ok (.getfield 9, 3) := by decide +kernel
theorem d_C_namesWhatIsNeeded_13 : decode M_C_namesWhatIsNeeded.2.1 13 = .ok (.bipush 77, 2) := by decide +kernel
theorem d_C_namesWhatIsNeeded_15 : decode M_C_namesWhatIsNeeded.2.1 15 = .ok (.if_icmp .eq 12, 3) := by decide +kernel
theorem d_C_namesWhatIsNeeded_18 : decode M_C_namesWhatIsNeeded.2.1 18 = .ok (.aload_n 0, 1) := by decide +kernel
theorem d_C_namesWhatIsNeeded_19 : decode M_C_namesWhatIsNeeded.2.1 19 = .ok (.getfield 9, 3) := by decide +kernel
theorem d_C_namesWhatIsNeeded_22 : decode M_C_namesWhatIsNeeded.2.1 22 = .ok (.bipush 80, 2) := by decide +kernel
theorem d_C_namesWhatIsNeeded_24 : decode M_C_namesWhatIsNeeded.2.1 24 = .ok (.if_icmp .ne 7, 3) := by decide +kernel
theorem d_C_namesWhatIsNeeded_27 : decode M_C_namesWhatIsNeeded.2.1 27 = .ok (.iconst 1, 1) := by decide +kernel
theorem d_C_namesWhatIsNeeded_28 : decode M_C_namesWhatIsNeeded.2.1 28 = .ok (.goto 4, 3) := by decide +kernel
theorem d_C_namesWhatIsNeeded_31 : decode M_C_namesWhatIsNeeded.2.1 31 = .ok (.iconst 0, 1) := by decide +kernel
theorem d_C_namesWhatIsNeeded_32 : decode M_C_namesWhatIsNeeded.2.1 32 = .ok (.ireturn, 1) := by decide +kernel
theorem d_G_want_0 : decode M_G_want.2.1 0 = .ok (.iload_n 1, 1) := by decide +kernel
theorem d_G_want_1 : decode M_G_want.2.1 1 = .ok (.iconst (-1), 1) := by decide +kernel
theorem d_G_want_2 : decode M_G_want.2.1 2 = .ok (.if_icmp .eq 19, 3) := by decide +kernel
theorem d_G_want_5 : decode M_G_want.2.1 5 = .ok (.aload_n 0, 1) := by decide +kernel
theorem d_G_want_6 : decode M_G_want.2.1 6 = .ok (.iload_n 1, 1) := by decide +kernel
theorem d_G_want_7 : decode M_G_want.2.1 7 = .ok (.invokevirtual 52, 3) := by decide +kernel
theorem d_G_want_10 : decode M_G_want.2.1 10 = .ok (.ifCond .ne 11, 3) := by decide +kernel
theorem d_G_want_13 : decode M_G_want.2.1 13 = .ok (.aload_n 0, 1) := by decide +kernel
theorem d_G_want_14 : decode M_G_want.2.1 14 = .ok (.getfield 31, 3) := by decide +kernel
theorem d_G_want_17 : decode M_G_want.2.1 17 = .ok (.iload_n 1, 1) := by decide +kernel
theorem d_G_want_18 : decode M_G_want.2.1 18 = .ok (.invokevirtual 98, 3) := by decide +kernel
theorem d_G_want_21 : decode M_G_want.2.1 21 = .ok (.return_, 1) := by decide +kernel
theorem d_N_add_0 : decode M_N_add.2.1 0 = .ok (.aload_n 0, 1) := by decide +kernel
theorem d_N_add_1 : decode M_N_add.2.1 1 = .ok (.iload_n 1, 1) := by decide +kernel
theorem d_N_add_2 : decode M_N_add.2.1 2 = .ok (.invokevirtual 17, 3) := by decide +kernel
theorem d_N_add_5 : decode M_N_add.2.1 5 = .ok (.istore_n 2, 1) := by decide +kernel
theorem d_N_add_6 : decode M_N_add.2.1 6 = .ok (.iload_n 2, 1) := by decide +kernel
theorem d_N_add_7 : decode M_N_add.2.1 7 = .ok (.aload_n 0, 1) := by decide +kernel
theorem d_N_add_8 : decode M_N_add.2.1 8 = .ok (.getfield 13, 3) := by decide +kernel
theorem d_N_add_11 : decode M_N_add.2.1 11 = .ok (.if_icmp .ge 14, 3) := by decide +kernel
theorem d_N_add_14 : decode M_N_add.2.1 14 = .ok (.aload_n 0, 1) := by decide +kernel
theorem d_N_add_15 : decode M_N_add.2.1 15 = .ok (.getfield 7, 3) := by decide +kernel
theorem d_N_add_18 : decode M_N_add.2.1 18 = .ok (.iload_n 2, 1) := by decide +kernel
theorem d_N_add_19 : decode M_N_add.2.1 19 = .ok (.iaload, 1) := by decide +kernel
theorem d_N_add_20 : decode M_N_add.2.1 20 = .ok (.iload_n 1, 1) := by decide +kernel
theorem d_N_add_21 : decode M_N_add.2.1 21 = .ok (.if_icmp .ne 4, 3) := by decide +kernel
theorem d_N_add_24 : decode M_N_add.2.1 24 = .ok (.return_, 1) := by decide +kernel
theorem d_N_add_25 : decode M_N_add.2.1 25 = .ok (.aload_n 0, 1) := by decide +kernel
theorem d_N_add_26 : decode M_N_add.2.1 26 = .ok (.getfield 13, 3) := by decide +kernel
theorem d_N_add_29 : decode M_N_add.2.1 29 = .ok (.aload_n 0, 1) := by decide +kernel
theorem d_N_add_30 : decode M_N_add.2.1 30 = .ok (.getfield 7, 3) := by decide +kernel
theorem d_N_add_33 : decode M_N_add.2.1 33 = .ok (.arraylength, 1) := by decide +kernel
theorem d_N_add_34 : decode M_N_add.2.1 34 = .ok (.if_icmp .ne 20, 3) := by decide +kernel
theorem d_N_add_37 : decode M_N_add.2.1 37 = .ok (.aload_n 0, 1) := by decide +kernel
theorem d_N_add_38 : decode M_N_add.2.1 38 = .ok (.aload_n 0, 1) := by decide +kernel
theorem d_N_add_39 : decode M_N_add.2.1 39 = .ok (.getfield 7, 3) := by decide +kernel
theorem d_N_add_42 : decode M_N_add.2.1 42 = .ok (.iconst 2, 1) := by decide +kernel
theorem d_N_add_43 : decode M_N_add.2.1 43 = .ok (.aload_n 0, 1) := by decide +kernel
theorem d_N_add_44 : decode M_N_add.2.1 44 = .ok (.getfield 13, 3) := by decide +kernel
theorem d_N_add_47 : decode M_N_add.2.1 47 = .ok (.imul, 1) := by decide +kernel
theorem d_N_add_48 : decode M_N_add.2.1 48 = .ok (.invokestatic 21, 3) := by decide +kernel
theorem d_N_add_51 : decode M_N_add.2.1 51 = .ok (.putfield 7, 3) := by decide +kernel
theorem d_N_add_54 : decode M_N_add.2.1 54 = .ok (.aload_n 0, 1) := by decide +kernel
theorem d_N_add_55 : decode M_N_add.2.1 55 = .ok (.getfield 7, 3) := by decide +kernel
theorem d_N_add_58 : decode M_N_add.2.1 58 = .ok (.iload_n 2, 1) := by decide +kernel
theorem d_N_add_59 : decode M_N_add.2.1 59 = .ok (.aload_n 0, 1) := by decide +kernel
theorem d_N_add_60 : decode M_N_add.2.1 60 = .ok (.getfield 7, 3) := by decide +kernel
theorem d_N_add_63 : decode M_N_add.2.1 63 = .ok (.iload_n 2, 1) := by decide +kernel
theorem d_N_add_64 : decode M_N_add.2.1 64 = .ok (.iconst 1, 1) := by decide +kernel
theorem d_N_add_65 : decode M_N_add.2.1 65 = .ok (.iadd, 1) := by decide +kernel
theorem d_N_add_66 : decode M_N_add.2.1 66 = .ok (.aload_n 0, 1) := by decide +kernel
theorem d_N_add_67 : decode M_N_add.2.1 67 = .ok (.getfield 13, 3) := by decide +kernel
theorem d_N_add_70 : decode M_N_add.2.1 70 = .ok (.iload_n 2, 1) := by decide +kernel
theorem d_N_add_71 : decode M_N_add.2.1 71 = .ok (.isub, 1) := by decide +kernel
theorem d_N_add_72 : decode M_N_add.2.1 72 = .ok (.invokestatic 27, 3) := by decide +kernel
theorem d_N_add_75 : decode M_N_add.2.1 75 = .ok (.aload_n 0, 1) := by decide +kernel
theorem d_N_add_76 : decode M_N_add.2.1 76 = .ok (.getfield 7, 3) := by decide +kernel
theorem d_N_add_79 : decode M_N_add.2.1 79 = .ok (.iload_n 2, 1) := by decide +kernel
theorem d_N_add_80 : decode M_N_add.2.1 80 = .ok (.iload_n 1, 1) := by decide +kernel
theorem d_N_add_81 : decode M_N_add.2.1 81 = .ok (.iastore, 1) := by decide +kernel
theorem d_N_add_82 : decode M_N_add.2.1 82 = .ok (.aload_n 0, 1) := by decide +kernel
theorem d_N_add_83 : decode M_N_add.2.1 83 = .ok (.dup, 1) := by decide +kernel
theorem d_N_add_84 : decode M_N_add.2.1 84 = .ok (.getfield 13, 3) := by decide +kernel
theorem d_N_add_87 : decode M_N_add.2.1 87 = .ok (.iconst 1, 1) := by decide +kernel
theorem d_N_add_88 : decode M_N_add.2.1 88 = .ok (.iadd, 1) := by decide +kernel
theorem d_N_add_89 : decode M_N_add.2.1 89 = .ok (.putfield 13, 3) := by decide +kernel
theorem d_N_add_92 : decode M_N_add.2.1 92 = .ok (.return_, 1) := by decide +kernel
theorem d_A_namesFile_0 : decode M_A_namesFile.2.1 0 = .ok (.iconst 0, 1) := by decide +kernel
theorem d_A_namesFile_1 : decode M_A_namesFile.2.1 1 = .ok (.istore_n 2, 1) := by decide +kernel
theorem d_A_namesFile_2 : decode M_A_namesFile.2.1 2 = .ok (.iload_n 2, 1) := by decide +kernel
theorem d_A_namesFile_3 : decode M_A_namesFile.2.1 3 = .ok (.aload_n 0, 1) := by decide +kernel
theorem d_A_namesFile_4 : decode M_A_namesFile.2.1 4 = .ok (.getfield 26, 3) := by decide +kernel
theorem d_A_namesFile_7 : decode M_A_namesFile.2.1 7 = .ok (.arraylength, 1) := by decide +kernel
theorem d_A_namesFile_8 : decode M_A_namesFile.2.1 8 = .ok (.if_icmp .ge 38, 3) := by decide +kernel
theorem d_A_namesFile_11 : decode M_A_namesFile.2.1 11 = .ok (.aload_n 0, 1) := by decide +kernel
theorem d_A_namesFile_12 : decode M_A_namesFile.2.1 12 = .ok (.getfield 26, 3) := by decide +kernel
theorem d_A_namesFile_15 : decode M_A_namesFile.2.1 15 = .ok (.iload_n 2, 1) := by decide +kernel
theorem d_A_namesFile_16 : decode M_A_namesFile.2.1 16 = .ok (.aaload, 1) := by decide +kernel
theorem d_A_namesFile_17 : decode M_A_namesFile.2.1 17 = .ok (.getfield 81, 3) := by decide +kernel
theorem d_A_namesFile_20 : decode M_A_namesFile.2.1 20 = .ok (.bipush 70, 2) := by decide +kernel
theorem d_A_namesFile_22 : decode M_A_namesFile.2.1 22 = .ok (.if_icmp .ne 18, 3) := by decide +kernel
theorem d_A_namesFile_25 : decode M_A_namesFile.2.1 25 = .ok (.aload_n 0, 1) := by decide +kernel
theorem d_A_namesFile_26 : decode M_A_namesFile.2.1 26 = .ok (.getfield 26, 3) := by decide +kernel
theorem d_A_namesFile_29 : decode M_A_namesFile.2.1 29 = .ok (.iload_n 2, 1) := by decide +kernel
theorem d_A_namesFile_30 : decode M_A_namesFile.2.1 30 = .ok (.aaload, 1) := by decide +kernel
theorem d_A_namesFile_31 : decode M_A_namesFile.2.1 31 = .ok (.getfield 84, 3) := by decide +kernel
theorem d_A_namesFile_34 : decode M_A_namesFile.2.1 34 = .ok (.iload_n 1, 1) := by decide +kernel
theorem d_A_namesFile_35 : decode M_A_namesFile.2.1 35 = .ok (.if_icmp .ne 5, 3) := by decide +kernel
theorem d_A_namesFile_38 : decode M_A_namesFile.2.1 38 = .ok (.iconst 1, 1) := by decide +kernel
theorem d_A_namesFile_39 : decode M_A_namesFile.2.1 39 = .ok (.ireturn, 1) := by decide +kernel
theorem d_A_namesFile_40 : decode M_A_namesFile.2.1 40 = .ok (.iinc 2 1, 3) := by decide +kernel
theorem d_A_namesFile_43 : decode M_A_namesFile.2.1 43 = .ok (.goto (-41), 3) := by decide +kernel
theorem d_A_namesFile_46 : decode M_A_namesFile.2.1 46 = .ok (.iconst 0, 1) := by decide +kernel
theorem d_A_namesFile_47 : decode M_A_namesFile.2.1 47 = .ok (.ireturn, 1) := by decide +kernel
theorem d_G_noteIfCheckIn_0 : decode M_G_noteIfCheckIn.2.1 0 = .ok (.aload_n 1, 1) := by decide +kernel
theorem d_G_noteIfCheckIn_1 : decode M_G_noteIfCheckIn.2.1 1 = .ok (.getfield 101, 3) := by decide +kernel
theorem d_G_noteIfCheckIn_4 : decode M_G_noteIfCheckIn.2.1 4 = .ok (.iconst 1, 1) := by decide +kernel
theorem d_G_noteIfCheckIn_5 : decode M_G_noteIfCheckIn.2.1 5 = .ok (.if_icmp .eq 4, 3) := by decide +kernel
theorem d_G_noteIfCheckIn_8 : decode M_G_noteIfCheckIn.2.1 8 = .ok (.return_, 1) := by decide +kernel
theorem d_G_noteIfCheckIn_9 : decode M_G_noteIfCheckIn.2.1 9 = .ok (.bipush 7, 2) := by decide +kernel
theorem d_G_noteIfCheckIn_11 : decode M_G_noteIfCheckIn.2.1 11 = .ok (.istore_n 2, 1) := by decide +kernel
theorem d_G_noteIfCheckIn_12 : decode M_G_noteIfCheckIn.2.1 12 = .ok (.iconst 0, 1) := by decide +kernel
theorem d_G_noteIfCheckIn_13 : decode M_G_noteIfCheckIn.2.1 13 = .ok (.istore_n 3, 1) := by decide +kernel
theorem d_G_noteIfCheckIn_14 : decode M_G_noteIfCheckIn.2.1 14 = .ok (.iload_n 3, 1) := by decide +kernel
theorem d_G_noteIfCheckIn_15 : decode M_G_noteIfCheckIn.2.1 15 = .ok (.aload_n 1, 1) := by decide +kernel
theorem d_G_noteIfCheckIn_16 : decode M_G_noteIfCheckIn.2.1 16 = .ok (.getfield 77, 3) := by decide +kernel
theorem d_G_noteIfCheckIn_19 : decode M_G_noteIfCheckIn.2.1 19 = .ok (.arraylength, 1) := by decide +kernel
theorem d_G_noteIfCheckIn_20 : decode M_G_noteIfCheckIn.2.1 20 = .ok (.if_icmp .ge 26, 3) := by decide +kernel
theorem d_G_noteIfCheckIn_23 : decode M_G_noteIfCheckIn.2.1 23 = .ok (.iload_n 2, 1) := by decide +kernel
theorem d_G_noteIfCheckIn_24 : decode M_G_noteIfCheckIn.2.1 24 = .ok (.iconst (-1), 1) := by decide +kernel
theorem d_G_noteIfCheckIn_25 : decode M_G_noteIfCheckIn.2.1 25 = .ok (.if_icmp .eq 21, 3) := by decide +kernel
theorem d_G_noteIfCheckIn_28 : decode M_G_noteIfCheckIn.2.1 28 = .ok (.aload_n 0, 1) := by decide +kernel
theorem d_G_noteIfCheckIn_29 : decode M_G_noteIfCheckIn.2.1 29 = .ok (.iload_n 2, 1) := by decide +kernel
theorem d_G_noteIfCheckIn_30 : decode M_G_noteIfCheckIn.2.1 30 = .ok (.aload_n 1, 1) := by decide +kernel
theorem d_G_noteIfCheckIn_31 : decode M_G_noteIfCheckIn.2.1 31 = .ok (.getfield 77, 3) := by decide +kernel
theorem d_G_noteIfCheckIn_34 : decode M_G_noteIfCheckIn.2.1 34 = .ok (.iload_n 3, 1) := by decide +kernel
theorem d_G_noteIfCheckIn_35 : decode M_G_noteIfCheckIn.2.1 35 = .ok (.aaload, 1) := by decide +kernel
theorem d_G_noteIfCheckIn_36 : decode M_G_noteIfCheckIn.2.1 36 = .ok (.invokevirtual 104, 3) := by decide +kernel
theorem d_G_noteIfCheckIn_39 : decode M_G_noteIfCheckIn.2.1 39 = .ok (.istore_n 2, 1) := by decide +kernel
theorem d_G_noteIfCheckIn_40 : decode M_G_noteIfCheckIn.2.1 40 = .ok (.iinc 3 1, 3) := by decide +kernel
theorem d_G_noteIfCheckIn_43 : decode M_G_noteIfCheckIn.2.1 43 = .ok (.goto (-29), 3) := by decide +kernel
theorem d_G_noteIfCheckIn_46 : decode M_G_noteIfCheckIn.2.1 46 = .ok (.iload_n 2, 1) := by decide +kernel
theorem d_G_noteIfCheckIn_47 : decode M_G_noteIfCheckIn.2.1 47 = .ok (.iconst (-1), 1) := by decide +kernel
theorem d_G_noteIfCheckIn_48 : decode M_G_noteIfCheckIn.2.1 48 = .ok (.if_icmp .eq 19, 3) := by decide +kernel
theorem d_G_noteIfCheckIn_51 : decode M_G_noteIfCheckIn.2.1 51 = .ok (.iload_n 2, 1) := by decide +kernel
theorem d_G_noteIfCheckIn_52 : decode M_G_noteIfCheckIn.2.1 52 = .ok (.aload_n 1, 1) := by decide +kernel
theorem d_G_noteIfCheckIn_53 : decode M_G_noteIfCheckIn.2.1 53 = .ok (.getfield 108, 3) := by decide +kernel
theorem d_G_noteIfCheckIn_56 : decode M_G_noteIfCheckIn.2.1 56 = .ok (.if_icmp .ne 11, 3) := by decide +kernel
theorem d_G_noteIfCheckIn_59 : decode M_G_noteIfCheckIn.2.1 59 = .ok (.aload_n 0, 1) := by decide +kernel
theorem d_G_noteIfCheckIn_60 : decode M_G_noteIfCheckIn.2.1 60 = .ok (.getfield 24, 3) := by decide +kernel
theorem d_G_noteIfCheckIn_63 : decode M_G_noteIfCheckIn.2.1 63 = .ok (.aload_n 1, 1) := by decide +kernel
theorem d_G_noteIfCheckIn_64 : decode M_G_noteIfCheckIn.2.1 64 = .ok (.invokevirtual 111, 3) := by decide +kernel
theorem d_G_noteIfCheckIn_67 : decode M_G_noteIfCheckIn.2.1 67 = .ok (.return_, 1) := by decide +kernel
theorem d_H_add_0 : decode M_H_add.2.1 0 = .ok (.aload_n 0, 1) := by decide +kernel
theorem d_H_add_1 : decode M_H_add.2.1 1 = .ok (.getfield 17, 3) := by decide +kernel
theorem d_H_add_4 : decode M_H_add.2.1 4 = .ok (.bipush 32, 2) := by decide +kernel
theorem d_H_add_6 : decode M_H_add.2.1 6 = .ok (.if_icmp .lt 4, 3) := by decide +kernel
theorem d_H_add_9 : decode M_H_add.2.1 9 = .ok (.return_, 1) := by decide +kernel
theorem d_H_add_10 : decode M_H_add.2.1 10 = .ok (.aload_n 0, 1) := by decide +kernel
theorem d_H_add_11 : decode M_H_add.2.1 11 = .ok (.getfield 17, 3) := by decide +kernel
theorem d_H_add_14 : decode M_H_add.2.1 14 = .ok (.istore_n 2, 1) := by decide +kernel
theorem d_H_add_15 : decode M_H_add.2.1 15 = .ok (.iload_n 2, 1) := by decide +kernel
theorem d_H_add_16 : decode M_H_add.2.1 16 = .ok (.ifCond .le 38, 3) := by decide +kernel
theorem d_H_add_19 : decode M_H_add.2.1 19 = .ok (.aload_n 1, 1) := by decide +kernel
theorem d_H_add_20 : decode M_H_add.2.1 20 = .ok (.aload_n 0, 1) := by decide +kernel
theorem d_H_add_21 : decode M_H_add.2.1 21 = .ok (.getfield 11, 3) := by decide +kernel
theorem d_H_add_24 : decode M_H_add.2.1 24 = .ok (.iload_n 2, 1) := by decide +kernel
theorem d_H_add_25 : decode M_H_add.2.1 25 = .ok (.iconst 1, 1) := by decide +kernel
theorem d_H_add_26 : decode M_H_add.2.1 26 = .ok (.isub, 1) := by decide +kernel
theorem d_H_add_27 : decode M_H_add.2.1 27 = .ok (.aaload, 1) := by decide +kernel
theorem d_H_add_28 : decode M_H_add.2.1 28 = .ok (.invokevirtual 21, 3) := by decide +kernel
theorem d_H_add_31 : decode M_H_add.2.1 31 = .ok (.ifCond .eq 23, 3) := by decide +kernel
theorem d_H_add_34 : decode M_H_add.2.1 34 = .ok (.aload_n 0, 1) := by decide +kernel
theorem d_H_add_35 : decode M_H_add.2.1 35 = .ok (.getfield 11, 3) := by decide +kernel
theorem d_H_add_38 : decode M_H_add.2.1 38 = .ok (.iload_n 2, 1) := by decide +kernel
theorem d_H_add_39 : decode M_H_add.2.1 39 = .ok (.aload_n 0, 1) := by decide +kernel
theorem d_H_add_40 : decode M_H_add.2.1 40 = .ok (.getfield 11, 3) := by decide +kernel
theorem d_H_add_43 : decode M_H_add.2.1 43 = .ok (.iload_n 2, 1) := by decide +kernel
theorem d_H_add_44 : decode M_H_add.2.1 44 = .ok (.iconst 1, 1) := by decide +kernel
theorem d_H_add_45 : decode M_H_add.2.1 45 = .ok (.isub, 1) := by decide +kernel
theorem d_H_add_46 : decode M_H_add.2.1 46 = .ok (.aaload, 1) := by decide +kernel
theorem d_H_add_47 : decode M_H_add.2.1 47 = .ok (.aastore, 1) := by decide +kernel
theorem d_H_add_48 : decode M_H_add.2.1 48 = .ok (.iinc 2 (-1), 3) := by decide +kernel
theorem d_H_add_51 : decode M_H_add.2.1 51 = .ok (.goto (-36), 3) := by decide +kernel
theorem d_H_add_54 : decode M_H_add.2.1 54 = .ok (.aload_n 0, 1) := by decide +kernel
theorem d_H_add_55 : decode M_H_add.2.1 55 = .ok (.getfield 11, 3) := by decide +kernel
theorem d_H_add_58 : decode M_H_add.2.1 58 = .ok (.iload_n 2, 1) := by decide +kernel
theorem d_H_add_59 : decode M_H_add.2.1 59 = .ok (.aload_n 1, 1) := by decide +kernel
theorem d_H_add_60 : decode M_H_add.2.1 60 = .ok (.aastore, 1) := by decide +kernel
theorem d_H_add_61 : decode M_H_add.2.1 61 = .ok (.aload_n 0, 1) := by decide +kernel
theorem d_H_add_62 : decode M_H_add.2.1 62 = .ok (.dup, 1) := by decide +kernel
theorem d_H_add_63 : decode M_H_add.2.1 63 = .ok (.getfield 17, 3) := by decide +kernel
theorem d_H_add_66 : decode M_H_add.2.1 66 = .ok (.iconst 1, 1) := by decide +kernel
theorem d_H_add_67 : decode M_H_add.2.1 67 = .ok (.iadd, 1) := by decide +kernel
theorem d_H_add_68 : decode M_H_add.2.1 68 = .ok (.putfield 17, 3) := by decide +kernel
theorem d_H_add_71 : decode M_H_add.2.1 71 = .ok (.return_, 1) := by decide +kernel
theorem d_A_isEarlierThan_0 : decode M_A_isEarlierThan.2.1 0 = .ok (.aload_n 0, 1) := by decide +kernel
theorem d_A_isEarlierThan_1 : decode M_A_isEarlierThan.2.1 1 = .ok (.getfield 34, 3) := by decide +kernel
theorem d_A_isEarlierThan_4 : decode M_A_isEarlierThan.2.1 4 = .ok (.aload_n 1, 1) := by decide +kernel
theorem d_A_isEarlierThan_5 : decode M_A_isEarlierThan.2.1 5 = .ok (.getfield 34, 3) := by decide +kernel
theorem d_A_isEarlierThan_8 : decode M_A_isEarlierThan.2.1 8 = .ok (.if_icmp .eq 22, 3) := by decide +kernel
theorem d_A_isEarlierThan_11 : decode M_A_isEarlierThan.2.1 11 = .ok (.aload_n 0, 1) := by decide +kernel
theorem d_A_isEarlierThan_12 : decode M_A_isEarlierThan.2.1 12 = .ok (.getfield 34, 3) := by decide +kernel
theorem d_A_isEarlierThan_15 : decode M_A_isEarlierThan.2.1 15 = .ok (.aload_n 1, 1) := by decide +kernel
theorem d_A_isEarlierThan_16 : decode M_A_isEarlierThan.2.1 16 = .ok (.getfield 34, 3) := by decide +kernel
theorem d_A_isEarlierThan_19 : decode M_A_isEarlierThan.2.1 19 = .ok (.if_icmp .ge 7, 3) := by decide +kernel
theorem d_A_isEarlierThan_22 : decode M_A_isEarlierThan.2.1 22 = .ok (.iconst 1, 1) := by decide +kernel
theorem d_A_isEarlierThan_23 : decode M_A_isEarlierThan.2.1 23 = .ok (.goto 23, 3) := by decide +kernel
theorem d_A_isEarlierThan_26 : decode M_A_isEarlierThan.2.1 26 = .ok (.iconst 0, 1) := by decide +kernel
theorem d_A_isEarlierThan_27 : decode M_A_isEarlierThan.2.1 27 = .ok (.goto 19, 3) := by decide +kernel
theorem d_A_isEarlierThan_30 : decode M_A_isEarlierThan.2.1 30 = .ok (.aload_n 0, 1) := by decide +kernel
theorem d_A_isEarlierThan_31 : decode M_A_isEarlierThan.2.1 31 = .ok (.getfield 19, 3) := by decide +kernel
theorem d_A_isEarlierThan_34 : decode M_A_isEarlierThan.2.1 34 = .ok (.aload_n 1, 1) := by decide +kernel
theorem d_A_isEarlierThan_35 : decode M_A_isEarlierThan.2.1 35 = .ok (.getfield 19, 3) := by decide +kernel
theorem d_A_isEarlierThan_38 : decode M_A_isEarlierThan.2.1 38 = .ok (.if_icmp .ge 7, 3) := by decide +kernel
theorem d_A_isEarlierThan_41 : decode M_A_isEarlierThan.2.1 41 = .ok (.iconst 1, 1) := by decide +kernel
theorem d_A_isEarlierThan_42 : decode M_A_isEarlierThan.2.1 42 = .ok (.goto 4, 3) := by decide +kernel
theorem d_A_isEarlierThan_45 : decode M_A_isEarlierThan.2.1 45 = .ok (.iconst 0, 1) := by decide +kernel
theorem d_A_isEarlierThan_46 : decode M_A_isEarlierThan.2.1 46 = .ok (.ireturn, 1) := by decide +kernel
theorem d_B_round_0 : decode M_B_round.2.1 0 = .ok (.iload_n 1, 1) := by decide +kernel
theorem d_B_round_1 : decode M_B_round.2.1 1 = .ok (.ifCond .lt 10, 3) := by decide +kernel
theorem d_B_round_4 : decode M_B_round.2.1 4 = .ok (.iload_n 1, 1) := by decide +kernel
theorem d_B_round_5 : decode M_B_round.2.1 5 = .ok (.sipush 10000, 3) := by decide +kernel
theorem d_B_round_8 : decode M_B_round.2.1 8 = .ok (.if_icmp .le 5, 3) := by decide +kernel
theorem d_B_round_11 : decode M_B_round.2.1 11 = .ok (.iconst (-1), 1) := by decide +kernel
theorem d_B_round_12 : decode M_B_round.2.1 12 = .ok (.ireturn, 1) := by decide +kernel
theorem d_B_round_13 : decode M_B_round.2.1 13 = .ok (.aload_n 0, 1) := by decide +kernel
theorem d_B_round_14 : decode M_B_round.2.1 14 = .ok (.getfield 10, 3) := by decide +kernel
theorem d_B_round_17 : decode M_B_round.2.1 17 = .ok (.aload_n 0, 1) := by decide +kernel
theorem d_B_round_18 : decode M_B_round.2.1 18 = .ok (.getfield 26, 3) := by decide +kernel
theorem d_B_round_21 : decode M_B_round.2.1 21 = .ok (.invokevirtual 95, 3) := by decide +kernel
theorem d_B_round_24 : decode M_B_round.2.1 24 = .ok (.aload_n 0, 1) := by decide +kernel
theorem d_B_round_25 : decode M_B_round.2.1 25 = .ok (.getfield 16, 3) := by decide +kernel
theorem d_B_round_28 : decode M_B_round.2.1 28 = .ok (.aload_n 0, 1) := by decide +kernel
theorem d_B_round_29 : decode M_B_round.2.1 29 = .ok (.getfield 26, 3) := by decide +kernel
theorem d_B_round_32 : decode M_B_round.2.1 32 = .ok (.invokevirtual 95, 3) := by decide +kernel
theorem d_B_round_35 : decode M_B_round.2.1 35 = .ok (.aload_n 0, 1) := by decide +kernel
theorem d_B_round_36 : decode M_B_round.2.1 36 = .ok (.getfield 10, 3) := by decide +kernel
theorem d_B_round_39 : decode M_B_round.2.1 39 = .ok (.aload_n 0, 1) := by decide +kernel
theorem d_B_round_40 : decode M_B_round.2.1 40 = .ok (.getfield 16, 3) := by decide +kernel
theorem d_B_round_43 : decode M_B_round.2.1 43 = .ok (.iload_n 1, 1) := by decide +kernel
theorem d_B_round_44 : decode M_B_round.2.1 44 = .ok (.invokevirtual 98, 3) := by decide +kernel
theorem d_B_round_47 : decode M_B_round.2.1 47 = .ok (.istore_n 2, 1) := by decide +kernel
theorem d_B_round_48 : decode M_B_round.2.1 48 = .ok (.iload_n 2, 1) := by decide +kernel
theorem d_B_round_49 : decode M_B_round.2.1 49 = .ok (.aload_n 0, 1) := by decide +kernel
theorem d_B_round_50 : decode M_B_round.2.1 50 = .ok (.getfield 16, 3) := by decide +kernel
theorem d_B_round_53 : decode M_B_round.2.1 53 = .ok (.aload_n 0, 1) := by decide +kernel
theorem d_B_round_54 : decode M_B_round.2.1 54 = .ok (.getfield 10, 3) := by decide +kernel
theorem d_B_round_57 : decode M_B_round.2.1 57 = .ok (.iload_n 1, 1) := by decide +kernel
theorem d_B_round_58 : decode M_B_round.2.1 58 = .ok (.invokevirtual 98, 3) := by decide +kernel
theorem d_B_round_61 : decode M_B_round.2.1 61 = .ok (.iadd, 1) := by decide +kernel
theorem d_B_round_62 : decode M_B_round.2.1 62 = .ok (.ireturn, 1) := by decide +kernel
theorem d_G_gatherCluster_0 : decode M_G_gatherCluster.2.1 0 = .ok (.aload_n 0, 1) := by decide +kernel
theorem d_G_gatherCluster_1 : decode M_G_gatherCluster.2.1 1 = .ok (.invokevirtual 48, 3) := by decide +kernel
theorem d_G_gatherCluster_4 : decode M_G_gatherCluster.2.1 4 = .ok (.ifCond .ne 11, 3) := by decide +kernel
theorem d_G_gatherCluster_7 : decode M_G_gatherCluster.2.1 7 = .ok (.aload_n 0, 1) := by decide +kernel
theorem d_G_gatherCluster_8 : decode M_G_gatherCluster.2.1 8 = .ok (.invokevirtual 139, 3) := by decide +kernel
theorem d_G_gatherCluster_11 : decode M_G_gatherCluster.2.1 11 = .ok (.iconst 5, 1) := by decide +kernel
theorem d_G_gatherCluster_12 : decode M_G_gatherCluster.2.1 12 = .ok (.if_icmp .gt 4, 3) := by decide +kernel
theorem d_G_gatherCluster_15 : decode M_G_gatherCluster.2.1 15 = .ok (.return_, 1) := by decide +kernel
theorem d_G_gatherCluster_16 : decode M_G_gatherCluster.2.1 16 = .ok (.aload_n 1, 1) := by decide +kernel
theorem d_G_gatherCluster_17 : decode M_G_gatherCluster.2.1 17 = .ok (.invokevirtual 143, 3) := by decide +kernel
theorem d_G_gatherCluster_20 : decode M_G_gatherCluster.2.1 20 = .ok (.iconst 0, 1) := by decide +kernel
theorem d_G_gatherCluster_21 : decode M_G_gatherCluster.2.1 21 = .ok (.istore_n 2, 1) := by decide +kernel
theorem d_G_gatherCluster_22 : decode M_G_gatherCluster.2.1 22 = .ok (.iconst 0, 1) := by decide +kernel
theorem d_G_gatherCluster_23 : decode M_G_gatherCluster.2.1 23 = .ok (.istore_n 3, 1) := by decide +kernel
theorem d_G_gatherCluster_24 : decode M_G_gatherCluster.2.1 24 = .ok (.iload_n 3, 1) := by decide +kernel
theorem d_G_gatherCluster_25 : decode M_G_gatherCluster.2.1 25 = .ok (.aload_n 0, 1) := by decide +kernel
theorem d_G_gatherCluster_26 : decode M_G_gatherCluster.2.1 26 = .ok (.getfield 17, 3) := by decide +kernel
theorem d_G_gatherCluster_29 : decode M_G_gatherCluster.2.1 29 = .ok (.if_icmp .ge 46, 3) := by decide +kernel
theorem d_G_gatherCluster_32 : decode M_G_gatherCluster.2.1 32 = .ok (.iload_n 2, 1) := by decide +kernel
theorem d_G_gatherCluster_33 : decode M_G_gatherCluster.2.1 33 = .ok (.bipush 20, 2) := by decide +kernel
theorem d_G_gatherCluster_35 : decode M_G_gatherCluster.2.1 35 = .ok (.if_icmp .ge 40, 3) := by decide +kernel
theorem d_G_gatherCluster_38 : decode M_G_gatherCluster.2.1 38 = .ok (.aload_n 0, 1) := by decide +kernel
theorem d_G_gatherCluster_39 : decode M_G_gatherCluster.2.1 39 = .ok (.aload_n 0, 1) := by decide +kernel
theorem d_G_gatherCluster_40 : decode M_G_gatherCluster.2.1 40 = .ok (.getfield 11, 3) := by decide +kernel
theorem d_G_gatherCluster_43 : decode M_G_gatherCluster.2.1 43 = .ok (.iload_n 3, 1) := by decide +kernel
theorem d_G_gatherCluster_44 : decode M_G_gatherCluster.2.1 44 = .ok (.aaload, 1) := by decide +kernel
theorem d_G_gatherCluster_45 : decode M_G_gatherCluster.2.1 45 = .ok (.invokevirtual 124, 3) := by decide +kernel
theorem d_G_gatherCluster_48 : decode M_G_gatherCluster.2.1 48 = .ok (.ifCond .eq 21, 3) := by decide +kernel
theorem d_G_gatherCluster_51 : decode M_G_gatherCluster.2.1 51 = .ok (.aload_n 1, 1) := by decide +kernel
theorem d_G_gatherCluster_52 : decode M_G_gatherCluster.2.1 52 = .ok (.bipush 77, 2) := by decide +kernel
theorem d_G_gatherCluster_54 : decode M_G_gatherCluster.2.1 54 = .ok (.aload_n 0, 1) := by decide +kernel
theorem d_G_gatherCluster_55 : decode M_G_gatherCluster.2.1 55 = .ok (.getfield 11, 3) := by decide +kernel
theorem d_G_gatherCluster_58 : decode M_G_gatherCluster.2.1 58 = .ok (.iload_n 3, 1) := by decide +kernel
theorem d_G_gatherCluster_59 : decode M_G_gatherCluster.2.1 59 = .ok (.aaload, 1) := by decide +kernel
theorem d_G_gatherCluster_60 : decode M_G_gatherCluster.2.1 60 = .ok (.getfield 45, 3) := by decide +kernel
theorem d_G_gatherCluster_63 : decode M_G_gatherCluster.2.1 63 = .ok (.invokevirtual 146, 3) := by decide +kernel
theorem d_G_gatherCluster_66 : decode M_G_gatherCluster.2.1 66 = .ok (.iinc 2 1, 3) := by decide +kernel
theorem d_G_gatherCluster_69 : decode M_G_gatherCluster.2.1 69 = .ok (.iinc 3 1, 3) := by decide +kernel
theorem d_G_gatherCluster_72 : decode M_G_gatherCluster.2.1 72 = .ok (.goto (-48), 3) := by decide +kernel
theorem d_G_gatherCluster_75 : decode M_G_gatherCluster.2.1 75 = .ok (.aload_n 1, 1) := by decide +kernel
theorem d_G_gatherCluster_76 : decode M_G_gatherCluster.2.1 76 = .ok (.bipush 90, 2) := by decide +kernel
theorem d_G_gatherCluster_78 : decode M_G_gatherCluster.2.1 78 = .ok (.aload_n 1, 1) := by decide +kernel
theorem d_G_gatherCluster_79 : decode M_G_gatherCluster.2.1 79 = .ok (.invokevirtual 150, 3) := by decide +kernel
theorem d_G_gatherCluster_82 : decode M_G_gatherCluster.2.1 82 = .ok (.invokevirtual 146, 3) := by decide +kernel
theorem d_G_gatherCluster_85 : decode M_G_gatherCluster.2.1 85 = .ok (.aload_n 0, 1) := by decide +kernel
theorem d_G_gatherCluster_86 : decode M_G_gatherCluster.2.1 86 = .ok (.aload_n 1, 1) := by decide +kernel
theorem d_G_gatherCluster_87 : decode M_G_gatherCluster.2.1 87 = .ok (.invokevirtual 150, 3) := by decide +kernel
theorem d_G_gatherCluster_90 : decode M_G_gatherCluster.2.1 90 = .ok (.invokevirtual 52, 3) := by decide +kernel
theorem d_G_gatherCluster_93 : decode M_G_gatherCluster.2.1 93 = .ok (.ifCond .ne 11, 3) := by decide +kernel
theorem d_G_gatherCluster_96 : decode M_G_gatherCluster.2.1 96 = .ok (.aload_n 0, 1) := by decide +kernel
theorem d_G_gatherCluster_97 : decode M_G_gatherCluster.2.1 97 = .ok (.aload_n 1, 1) := by decide +kernel
theorem d_G_gatherCluster_98 : decode M_G_gatherCluster.2.1 98 = .ok (.invokestatic 153, 3) := by decide +kernel
theorem d_G_gatherCluster_101 : decode M_G_gatherCluster.2.1 101 = .ok (.invokevirtual 157, 3) := by decide +kernel
theorem d_G_gatherCluster_104 : decode M_G_gatherCluster.2.1 104 = .ok (.return_, 1) := by decide +kernel

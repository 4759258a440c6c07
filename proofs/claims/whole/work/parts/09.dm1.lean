/-! Decode rows. Own work. -/
theorem d_m_isNumber_0 : decode M_m_isNumber.2.1 0 = .ok (.iload_n 3, 1) := by decide +kernel
theorem d_m_isNumber_1 : decode M_m_isNumber.2.1 1 = .ok (.iconst 4, 1) := by decide +kernel
theorem d_m_isNumber_2 : decode M_m_isNumber.2.1 2 = .ok (.if_icmp .gt 19, 3) := by decide +kernel
theorem d_m_isNumber_5 : decode M_m_isNumber.2.1 5 = .ok (.iload_n 3, 1) := by decide +kernel
theorem d_m_isNumber_6 : decode M_m_isNumber.2.1 6 = .ok (.iconst 1, 1) := by decide +kernel
theorem d_m_isNumber_7 : decode M_m_isNumber.2.1 7 = .ok (.if_icmp .le 16, 3) := by decide +kernel
theorem d_m_isNumber_10 : decode M_m_isNumber.2.1 10 = .ok (.aload_n 0, 1) := by decide +kernel
theorem d_m_isNumber_11 : decode M_m_isNumber.2.1 11 = .ok (.iload_n 1, 1) := by decide +kernel
theorem d_m_isNumber_12 : decode M_m_isNumber.2.1 12 = .ok (.iload_n 2, 1) := by decide +kernel
theorem d_m_isNumber_13 : decode M_m_isNumber.2.1 13 = .ok (.invokevirtual 40, 3) := by decide +kernel
theorem d_m_isNumber_16 : decode M_m_isNumber.2.1 16 = .ok (.bipush 48, 2) := by decide +kernel
theorem d_m_isNumber_18 : decode M_m_isNumber.2.1 18 = .ok (.if_icmp .ne 5, 3) := by decide +kernel
theorem d_m_isNumber_21 : decode M_m_isNumber.2.1 21 = .ok (.iconst 0, 1) := by decide +kernel
theorem d_m_isNumber_22 : decode M_m_isNumber.2.1 22 = .ok (.ireturn, 1) := by decide +kernel
theorem d_m_isNumber_23 : decode M_m_isNumber.2.1 23 = .ok (.aload_n 0, 1) := by decide +kernel
theorem d_m_isNumber_24 : decode M_m_isNumber.2.1 24 = .ok (.iconst 0, 1) := by decide +kernel
theorem d_m_isNumber_25 : decode M_m_isNumber.2.1 25 = .ok (.putfield 83, 3) := by decide +kernel
theorem d_m_isNumber_28 : decode M_m_isNumber.2.1 28 = .ok (.iconst 1, 1) := by decide +kernel
theorem d_m_isNumber_29 : decode M_m_isNumber.2.1 29 = .ok (.istore 4, 2) := by decide +kernel
theorem d_m_isNumber_31 : decode M_m_isNumber.2.1 31 = .ok (.iload_n 2, 1) := by decide +kernel
theorem d_m_isNumber_32 : decode M_m_isNumber.2.1 32 = .ok (.istore 5, 2) := by decide +kernel
theorem d_m_isNumber_34 : decode M_m_isNumber.2.1 34 = .ok (.iload 5, 2) := by decide +kernel
theorem d_m_isNumber_36 : decode M_m_isNumber.2.1 36 = .ok (.iload_n 2, 1) := by decide +kernel
theorem d_m_isNumber_37 : decode M_m_isNumber.2.1 37 = .ok (.iload_n 3, 1) := by decide +kernel
theorem d_m_isNumber_38 : decode M_m_isNumber.2.1 38 = .ok (.iadd, 1) := by decide +kernel
theorem d_m_isNumber_39 : decode M_m_isNumber.2.1 39 = .ok (.if_icmp .ge 56, 3) := by decide +kernel
theorem d_m_isNumber_42 : decode M_m_isNumber.2.1 42 = .ok (.iload 4, 2) := by decide +kernel
theorem d_m_isNumber_44 : decode M_m_isNumber.2.1 44 = .ok (.ifCond .eq 20, 3) := by decide +kernel
theorem d_m_isNumber_47 : decode M_m_isNumber.2.1 47 = .ok (.aload_n 0, 1) := by decide +kernel
theorem d_m_isNumber_48 : decode M_m_isNumber.2.1 48 = .ok (.iload_n 1, 1) := by decide +kernel
theorem d_m_isNumber_49 : decode M_m_isNumber.2.1 49 = .ok (.iload 5, 2) := by decide +kernel
theorem d_m_isNumber_51 : decode M_m_isNumber.2.1 51 = .ok (.invokevirtual 40, 3) := by decide +kernel
theorem d_m_isNumber_54 : decode M_m_isNumber.2.1 54 = .ok (.invokestatic 70, 3) := by decide +kernel
theorem d_m_isNumber_57 : decode M_m_isNumber.2.1 57 = .ok (.ifCond .eq 7, 3) := by decide +kernel
theorem d_m_isNumber_60 : decode M_m_isNumber.2.1 60 = .ok (.iconst 1, 1) := by decide +kernel
theorem d_m_isNumber_61 : decode M_m_isNumber.2.1 61 = .ok (.goto 4, 3) := by decide +kernel
theorem d_m_isNumber_64 : decode M_m_isNumber.2.1 64 = .ok (.iconst 0, 1) := by decide +kernel
theorem d_m_isNumber_65 : decode M_m_isNumber.2.1 65 = .ok (.istore 4, 2) := by decide +kernel
theorem d_m_isNumber_67 : decode M_m_isNumber.2.1 67 = .ok (.aload_n 0, 1) := by decide +kernel
theorem d_m_isNumber_68 : decode M_m_isNumber.2.1 68 = .ok (.bipush 10, 2) := by decide +kernel
theorem d_m_isNumber_70 : decode M_m_isNumber.2.1 70 = .ok (.aload_n 0, 1) := by decide +kernel
theorem d_m_isNumber_71 : decode M_m_isNumber.2.1 71 = .ok (.getfield 83, 3) := by decide +kernel
theorem d_m_isNumber_74 : decode M_m_isNumber.2.1 74 = .ok (.imul, 1) := by decide +kernel
theorem d_m_isNumber_75 : decode M_m_isNumber.2.1 75 = .ok (.aload_n 0, 1) := by decide +kernel
theorem d_m_isNumber_76 : decode M_m_isNumber.2.1 76 = .ok (.iload_n 1, 1) := by decide +kernel
theorem d_m_isNumber_77 : decode M_m_isNumber.2.1 77 = .ok (.iload 5, 2) := by decide +kernel
theorem d_m_isNumber_79 : decode M_m_isNumber.2.1 79 = .ok (.invokevirtual 40, 3) := by decide +kernel
theorem d_m_isNumber_82 : decode M_m_isNumber.2.1 82 = .ok (.iadd, 1) := by decide +kernel
theorem d_m_isNumber_83 : decode M_m_isNumber.2.1 83 = .ok (.bipush 48, 2) := by decide +kernel
theorem d_m_isNumber_85 : decode M_m_isNumber.2.1 85 = .ok (.isub, 1) := by decide +kernel
theorem d_m_isNumber_86 : decode M_m_isNumber.2.1 86 = .ok (.putfield 83, 3) := by decide +kernel
theorem d_m_isNumber_89 : decode M_m_isNumber.2.1 89 = .ok (.iinc 5 1, 3) := by decide +kernel
theorem d_m_isNumber_92 : decode M_m_isNumber.2.1 92 = .ok (.goto (-58), 3) := by decide +kernel
theorem d_m_isNumber_95 : decode M_m_isNumber.2.1 95 = .ok (.iload 4, 2) := by decide +kernel
theorem d_m_isNumber_97 : decode M_m_isNumber.2.1 97 = .ok (.ireturn, 1) := by decide +kernel
theorem d_m_isDigit_0 : decode M_m_isDigit.2.1 0 = .ok (.iload_n 0, 1) := by decide +kernel
theorem d_m_isDigit_1 : decode M_m_isDigit.2.1 1 = .ok (.bipush 48, 2) := by decide +kernel
theorem d_m_isDigit_3 : decode M_m_isDigit.2.1 3 = .ok (.if_icmp .lt 13, 3) := by decide +kernel
theorem d_m_isDigit_6 : decode M_m_isDigit.2.1 6 = .ok (.iload_n 0, 1) := by decide +kernel
theorem d_m_isDigit_7 : decode M_m_isDigit.2.1 7 = .ok (.bipush 57, 2) := by decide +kernel
theorem d_m_isDigit_9 : decode M_m_isDigit.2.1 9 = .ok (.if_icmp .gt 7, 3) := by decide +kernel
theorem d_m_isDigit_12 : decode M_m_isDigit.2.1 12 = .ok (.iconst 1, 1) := by decide +kernel
theorem d_m_isDigit_13 : decode M_m_isDigit.2.1 13 = .ok (.goto 4, 3) := by decide +kernel
theorem d_m_isDigit_16 : decode M_m_isDigit.2.1 16 = .ok (.iconst 0, 1) := by decide +kernel
theorem d_m_isDigit_17 : decode M_m_isDigit.2.1 17 = .ok (.ireturn, 1) := by decide +kernel
theorem d_m_nameAt_0 : decode M_m_nameAt.2.1 0 = .ok (.iconst 0, 1) := by decide +kernel
theorem d_m_nameAt_1 : decode M_m_nameAt.2.1 1 = .ok (.istore_n 3, 1) := by decide +kernel
theorem d_m_nameAt_2 : decode M_m_nameAt.2.1 2 = .ok (.iload_n 2, 1) := by decide +kernel
theorem d_m_nameAt_3 : decode M_m_nameAt.2.1 3 = .ok (.istore 4, 2) := by decide +kernel
theorem d_m_nameAt_5 : decode M_m_nameAt.2.1 5 = .ok (.iload 4, 2) := by decide +kernel
theorem d_m_nameAt_7 : decode M_m_nameAt.2.1 7 = .ok (.iload_n 2, 1) := by decide +kernel
theorem d_m_nameAt_8 : decode M_m_nameAt.2.1 8 = .ok (.bipush 6, 2) := by decide +kernel
theorem d_m_nameAt_10 : decode M_m_nameAt.2.1 10 = .ok (.iadd, 1) := by decide +kernel
theorem d_m_nameAt_11 : decode M_m_nameAt.2.1 11 = .ok (.if_icmp .ge 43, 3) := by decide +kernel
theorem d_m_nameAt_14 : decode M_m_nameAt.2.1 14 = .ok (.aload_n 0, 1) := by decide +kernel
theorem d_m_nameAt_15 : decode M_m_nameAt.2.1 15 = .ok (.iload_n 1, 1) := by decide +kernel
theorem d_m_nameAt_16 : decode M_m_nameAt.2.1 16 = .ok (.iload 4, 2) := by decide +kernel
theorem d_m_nameAt_18 : decode M_m_nameAt.2.1 18 = .ok (.invokevirtual 40, 3) := by decide +kernel
theorem d_m_nameAt_21 : decode M_m_nameAt.2.1 21 = .ok (.bipush 97, 2) := by decide +kernel
theorem d_m_nameAt_23 : decode M_m_nameAt.2.1 23 = .ok (.isub, 1) := by decide +kernel
theorem d_m_nameAt_24 : decode M_m_nameAt.2.1 24 = .ok (.istore 5, 2) := by decide +kernel
theorem d_m_nameAt_26 : decode M_m_nameAt.2.1 26 = .ok (.iload 5, 2) := by decide +kernel
theorem d_m_nameAt_28 : decode M_m_nameAt.2.1 28 = .ok (.ifCond .lt 10, 3) := by decide +kernel
theorem d_m_nameAt_31 : decode M_m_nameAt.2.1 31 = .ok (.iload 5, 2) := by decide +kernel
theorem d_m_nameAt_33 : decode M_m_nameAt.2.1 33 = .ok (.bipush 15, 2) := by decide +kernel
theorem d_m_nameAt_35 : decode M_m_nameAt.2.1 35 = .ok (.if_icmp .le 5, 3) := by decide +kernel
theorem d_m_nameAt_38 : decode M_m_nameAt.2.1 38 = .ok (.iconst (-1), 1) := by decide +kernel
theorem d_m_nameAt_39 : decode M_m_nameAt.2.1 39 = .ok (.ireturn, 1) := by decide +kernel
theorem d_m_nameAt_40 : decode M_m_nameAt.2.1 40 = .ok (.bipush 16, 2) := by decide +kernel
theorem d_m_nameAt_42 : decode M_m_nameAt.2.1 42 = .ok (.iload_n 3, 1) := by decide +kernel
theorem d_m_nameAt_43 : decode M_m_nameAt.2.1 43 = .ok (.imul, 1) := by decide +kernel
theorem d_m_nameAt_44 : decode M_m_nameAt.2.1 44 = .ok (.iload 5, 2) := by decide +kernel
theorem d_m_nameAt_46 : decode M_m_nameAt.2.1 46 = .ok (.iadd, 1) := by decide +kernel
theorem d_m_nameAt_47 : decode M_m_nameAt.2.1 47 = .ok (.istore_n 3, 1) := by decide +kernel
theorem d_m_nameAt_48 : decode M_m_nameAt.2.1 48 = .ok (.iinc 4 1, 3) := by decide +kernel
theorem d_m_nameAt_51 : decode M_m_nameAt.2.1 51 = .ok (.goto (-46), 3) := by decide +kernel
theorem d_m_nameAt_54 : decode M_m_nameAt.2.1 54 = .ok (.iload_n 3, 1) := by decide +kernel
theorem d_m_nameAt_55 : decode M_m_nameAt.2.1 55 = .ok (.ireturn, 1) := by decide +kernel
theorem d_m_isParent_0 : decode M_m_isParent.2.1 0 = .ok (.iload_n 3, 1) := by decide +kernel
theorem d_m_isParent_1 : decode M_m_isParent.2.1 1 = .ok (.bipush 8, 2) := by decide +kernel
theorem d_m_isParent_3 : decode M_m_isParent.2.1 3 = .ok (.if_icmp .eq 11, 3) := by decide +kernel
theorem d_m_isParent_6 : decode M_m_isParent.2.1 6 = .ok (.iload_n 3, 1) := by decide +kernel
theorem d_m_isParent_7 : decode M_m_isParent.2.1 7 = .ok (.bipush 15, 2) := by decide +kernel
theorem d_m_isParent_9 : decode M_m_isParent.2.1 9 = .ok (.if_icmp .eq 5, 3) := by decide +kernel
theorem d_m_isParent_12 : decode M_m_isParent.2.1 12 = .ok (.iconst 0, 1) := by decide +kernel
theorem d_m_isParent_13 : decode M_m_isParent.2.1 13 = .ok (.ireturn, 1) := by decide +kernel
theorem d_m_isParent_14 : decode M_m_isParent.2.1 14 = .ok (.aload_n 0, 1) := by decide +kernel
theorem d_m_isParent_15 : decode M_m_isParent.2.1 15 = .ok (.aload_n 0, 1) := by decide +kernel
theorem d_m_isParent_16 : decode M_m_isParent.2.1 16 = .ok (.iload_n 1, 1) := by decide +kernel
theorem d_m_isParent_17 : decode M_m_isParent.2.1 17 = .ok (.iload_n 2, 1) := by decide +kernel
theorem d_m_isParent_18 : decode M_m_isParent.2.1 18 = .ok (.iconst 2, 1) := by decide +kernel
theorem d_m_isParent_19 : decode M_m_isParent.2.1 19 = .ok (.iadd, 1) := by decide +kernel
theorem d_m_isParent_20 : decode M_m_isParent.2.1 20 = .ok (.invokevirtual 67, 3) := by decide +kernel
theorem d_m_isParent_23 : decode M_m_isParent.2.1 23 = .ok (.putfield 58, 3) := by decide +kernel
theorem d_m_isParent_26 : decode M_m_isParent.2.1 26 = .ok (.iload_n 3, 1) := by decide +kernel
theorem d_m_isParent_27 : decode M_m_isParent.2.1 27 = .ok (.bipush 8, 2) := by decide +kernel
theorem d_m_isParent_29 : decode M_m_isParent.2.1 29 = .ok (.if_icmp .eq 10, 3) := by decide +kernel
theorem d_m_isParent_32 : decode M_m_isParent.2.1 32 = .ok (.aload_n 0, 1) := by decide +kernel
theorem d_m_isParent_33 : decode M_m_isParent.2.1 33 = .ok (.getfield 58, 3) := by decide +kernel
theorem d_m_isParent_36 : decode M_m_isParent.2.1 36 = .ok (.ifCond .ge 16, 3) := by decide +kernel
theorem d_m_isParent_39 : decode M_m_isParent.2.1 39 = .ok (.aload_n 0, 1) := by decide +kernel
theorem d_m_isParent_40 : decode M_m_isParent.2.1 40 = .ok (.getfield 58, 3) := by decide +kernel
theorem d_m_isParent_43 : decode M_m_isParent.2.1 43 = .ok (.ifCond .lt 7, 3) := by decide +kernel
theorem d_m_isParent_46 : decode M_m_isParent.2.1 46 = .ok (.iconst 1, 1) := by decide +kernel
theorem d_m_isParent_47 : decode M_m_isParent.2.1 47 = .ok (.goto 4, 3) := by decide +kernel
theorem d_m_isParent_50 : decode M_m_isParent.2.1 50 = .ok (.iconst 0, 1) := by decide +kernel
theorem d_m_isParent_51 : decode M_m_isParent.2.1 51 = .ok (.ireturn, 1) := by decide +kernel
theorem d_m_isParent_52 : decode M_m_isParent.2.1 52 = .ok (.aload_n 0, 1) := by decide +kernel
theorem d_m_isParent_53 : decode M_m_isParent.2.1 53 = .ok (.aload_n 0, 1) := by decide +kernel
theorem d_m_isParent_54 : decode M_m_isParent.2.1 54 = .ok (.iload_n 1, 1) := by decide +kernel
theorem d_m_isParent_55 : decode M_m_isParent.2.1 55 = .ok (.iload_n 2, 1) := by decide +kernel
theorem d_m_isParent_56 : decode M_m_isParent.2.1 56 = .ok (.bipush 9, 2) := by decide +kernel
theorem d_m_isParent_58 : decode M_m_isParent.2.1 58 = .ok (.iadd, 1) := by decide +kernel
theorem d_m_isParent_59 : decode M_m_isParent.2.1 59 = .ok (.invokevirtual 67, 3) := by decide +kernel
theorem d_m_isParent_62 : decode M_m_isParent.2.1 62 = .ok (.putfield 61, 3) := by decide +kernel
theorem d_m_isParent_65 : decode M_m_isParent.2.1 65 = .ok (.aload_n 0, 1) := by decide +kernel
theorem d_m_isParent_66 : decode M_m_isParent.2.1 66 = .ok (.iload_n 1, 1) := by decide +kernel
theorem d_m_isParent_67 : decode M_m_isParent.2.1 67 = .ok (.iload_n 2, 1) := by decide +kernel
theorem d_m_isParent_68 : decode M_m_isParent.2.1 68 = .ok (.bipush 8, 2) := by decide +kernel
theorem d_m_isParent_70 : decode M_m_isParent.2.1 70 = .ok (.iadd, 1) := by decide +kernel
theorem d_m_isParent_71 : decode M_m_isParent.2.1 71 = .ok (.invokevirtual 40, 3) := by decide +kernel
theorem d_m_isParent_74 : decode M_m_isParent.2.1 74 = .ok (.bipush 32, 2) := by decide +kernel
theorem d_m_isParent_76 : decode M_m_isParent.2.1 76 = .ok (.if_icmp .ne 25, 3) := by decide +kernel
theorem d_m_isParent_79 : decode M_m_isParent.2.1 79 = .ok (.aload_n 0, 1) := by decide +kernel
theorem d_m_isParent_80 : decode M_m_isParent.2.1 80 = .ok (.getfield 61, 3) := by decide +kernel
theorem d_m_isParent_83 : decode M_m_isParent.2.1 83 = .ok (.ifCond .lt 18, 3) := by decide +kernel
theorem d_m_isParent_86 : decode M_m_isParent.2.1 86 = .ok (.aload_n 0, 1) := by decide +kernel
theorem d_m_isParent_87 : decode M_m_isParent.2.1 87 = .ok (.getfield 58, 3) := by decide +kernel
theorem d_m_isParent_90 : decode M_m_isParent.2.1 90 = .ok (.aload_n 0, 1) := by decide +kernel
theorem d_m_isParent_91 : decode M_m_isParent.2.1 91 = .ok (.getfield 61, 3) := by decide +kernel
theorem d_m_isParent_94 : decode M_m_isParent.2.1 94 = .ok (.if_icmp .eq 7, 3) := by decide +kernel
theorem d_m_isParent_97 : decode M_m_isParent.2.1 97 = .ok (.iconst 1, 1) := by decide +kernel
theorem d_m_isParent_98 : decode M_m_isParent.2.1 98 = .ok (.goto 4, 3) := by decide +kernel
theorem d_m_isParent_101 : decode M_m_isParent.2.1 101 = .ok (.iconst 0, 1) := by decide +kernel
theorem d_m_isParent_102 : decode M_m_isParent.2.1 102 = .ok (.ireturn, 1) := by decide +kernel
theorem d_m_isTag_0 : decode M_m_isTag.2.1 0 = .ok (.iload_n 3, 1) := by decide +kernel
theorem d_m_isTag_1 : decode M_m_isTag.2.1 1 = .ok (.bipush 6, 2) := by decide +kernel
theorem d_m_isTag_3 : decode M_m_isTag.2.1 3 = .ok (.if_icmp .eq 11, 3) := by decide +kernel
theorem d_m_isTag_6 : decode M_m_isTag.2.1 6 = .ok (.iload_n 3, 1) := by decide +kernel
theorem d_m_isTag_7 : decode M_m_isTag.2.1 7 = .ok (.bipush 11, 2) := by decide +kernel
theorem d_m_isTag_9 : decode M_m_isTag.2.1 9 = .ok (.if_icmp .eq 5, 3) := by decide +kernel
theorem d_m_isTag_12 : decode M_m_isTag.2.1 12 = .ok (.iconst 0, 1) := by decide +kernel
theorem d_m_isTag_13 : decode M_m_isTag.2.1 13 = .ok (.ireturn, 1) := by decide +kernel
theorem d_m_isTag_14 : decode M_m_isTag.2.1 14 = .ok (.aload_n 0, 1) := by decide +kernel
theorem d_m_isTag_15 : decode M_m_isTag.2.1 15 = .ok (.iload_n 1, 1) := by decide +kernel
theorem d_m_isTag_16 : decode M_m_isTag.2.1 16 = .ok (.iload_n 2, 1) := by decide +kernel
theorem d_m_isTag_17 : decode M_m_isTag.2.1 17 = .ok (.iconst 2, 1) := by decide +kernel
theorem d_m_isTag_18 : decode M_m_isTag.2.1 18 = .ok (.iadd, 1) := by decide +kernel
theorem d_m_isTag_19 : decode M_m_isTag.2.1 19 = .ok (.invokevirtual 40, 3) := by decide +kernel
theorem d_m_isTag_22 : decode M_m_isTag.2.1 22 = .ok (.istore 4, 2) := by decide +kernel
theorem d_m_isTag_24 : decode M_m_isTag.2.1 24 = .ok (.iload 4, 2) := by decide +kernel
theorem d_m_isTag_26 : decode M_m_isTag.2.1 26 = .ok (.bipush 43, 2) := by decide +kernel
theorem d_m_isTag_28 : decode M_m_isTag.2.1 28 = .ok (.if_icmp .eq 10, 3) := by decide +kernel
theorem d_m_isTag_31 : decode M_m_isTag.2.1 31 = .ok (.iload 4, 2) := by decide +kernel
theorem d_m_isTag_33 : decode M_m_isTag.2.1 33 = .ok (.bipush 45, 2) := by decide +kernel
theorem d_m_isTag_35 : decode M_m_isTag.2.1 35 = .ok (.if_icmp .ne 30, 3) := by decide +kernel
theorem d_m_isTag_38 : decode M_m_isTag.2.1 38 = .ok (.aload_n 0, 1) := by decide +kernel
theorem d_m_isTag_39 : decode M_m_isTag.2.1 39 = .ok (.iload_n 1, 1) := by decide +kernel
theorem d_m_isTag_40 : decode M_m_isTag.2.1 40 = .ok (.iload_n 2, 1) := by decide +kernel
theorem d_m_isTag_41 : decode M_m_isTag.2.1 41 = .ok (.iconst 3, 1) := by decide +kernel
theorem d_m_isTag_42 : decode M_m_isTag.2.1 42 = .ok (.iadd, 1) := by decide +kernel
theorem d_m_isTag_43 : decode M_m_isTag.2.1 43 = .ok (.invokevirtual 40, 3) := by decide +kernel
theorem d_m_isTag_46 : decode M_m_isTag.2.1 46 = .ok (.invokestatic 70, 3) := by decide +kernel
theorem d_m_isTag_49 : decode M_m_isTag.2.1 49 = .ok (.ifCond .eq 16, 3) := by decide +kernel
theorem d_m_isTag_52 : decode M_m_isTag.2.1 52 = .ok (.aload_n 0, 1) := by decide +kernel
theorem d_m_isTag_53 : decode M_m_isTag.2.1 53 = .ok (.iload_n 1, 1) := by decide +kernel
theorem d_m_isTag_54 : decode M_m_isTag.2.1 54 = .ok (.iload_n 2, 1) := by decide +kernel
theorem d_m_isTag_55 : decode M_m_isTag.2.1 55 = .ok (.iconst 4, 1) := by decide +kernel
theorem d_m_isTag_56 : decode M_m_isTag.2.1 56 = .ok (.iadd, 1) := by decide +kernel
theorem d_m_isTag_57 : decode M_m_isTag.2.1 57 = .ok (.invokevirtual 40, 3) := by decide +kernel
theorem d_m_isTag_60 : decode M_m_isTag.2.1 60 = .ok (.bipush 32, 2) := by decide +kernel
theorem d_m_isTag_62 : decode M_m_isTag.2.1 62 = .ok (.if_icmp .eq 5, 3) := by decide +kernel
theorem d_m_isTag_65 : decode M_m_isTag.2.1 65 = .ok (.iconst 0, 1) := by decide +kernel
theorem d_m_isTag_66 : decode M_m_isTag.2.1 66 = .ok (.ireturn, 1) := by decide +kernel
theorem d_m_isTag_67 : decode M_m_isTag.2.1 67 = .ok (.aload_n 0, 1) := by decide +kernel
theorem d_m_isTag_68 : decode M_m_isTag.2.1 68 = .ok (.iload 4, 2) := by decide +kernel
theorem d_m_isTag_70 : decode M_m_isTag.2.1 70 = .ok (.bipush 43, 2) := by decide +kernel
theorem d_m_isTag_72 : decode M_m_isTag.2.1 72 = .ok (.if_icmp .ne 7, 3) := by decide +kernel
theorem d_m_isTag_75 : decode M_m_isTag.2.1 75 = .ok (.iconst 1, 1) := by decide +kernel
theorem d_m_isTag_76 : decode M_m_isTag.2.1 76 = .ok (.goto 4, 3) := by decide +kernel
theorem d_m_isTag_79 : decode M_m_isTag.2.1 79 = .ok (.iconst 0, 1) := by decide +kernel
theorem d_m_isTag_80 : decode M_m_isTag.2.1 80 = .ok (.putfield 86, 3) := by decide +kernel
theorem d_m_isTag_83 : decode M_m_isTag.2.1 83 = .ok (.aload_n 0, 1) := by decide +kernel
theorem d_m_isTag_84 : decode M_m_isTag.2.1 84 = .ok (.aload_n 0, 1) := by decide +kernel
theorem d_m_isTag_85 : decode M_m_isTag.2.1 85 = .ok (.iload_n 1, 1) := by decide +kernel
theorem d_m_isTag_86 : decode M_m_isTag.2.1 86 = .ok (.iload_n 2, 1) := by decide +kernel
theorem d_m_isTag_87 : decode M_m_isTag.2.1 87 = .ok (.iconst 3, 1) := by decide +kernel
theorem d_m_isTag_88 : decode M_m_isTag.2.1 88 = .ok (.iadd, 1) := by decide +kernel
theorem d_m_isTag_89 : decode M_m_isTag.2.1 89 = .ok (.invokevirtual 40, 3) := by decide +kernel
theorem d_m_isTag_92 : decode M_m_isTag.2.1 92 = .ok (.bipush 48, 2) := by decide +kernel
theorem d_m_isTag_94 : decode M_m_isTag.2.1 94 = .ok (.isub, 1) := by decide +kernel
theorem d_m_isTag_95 : decode M_m_isTag.2.1 95 = .ok (.putfield 74, 3) := by decide +kernel
theorem d_m_isTag_98 : decode M_m_isTag.2.1 98 = .ok (.iload_n 3, 1) := by decide +kernel
theorem d_m_isTag_99 : decode M_m_isTag.2.1 99 = .ok (.bipush 6, 2) := by decide +kernel
theorem d_m_isTag_101 : decode M_m_isTag.2.1 101 = .ok (.if_icmp .ne 22, 3) := by decide +kernel
theorem d_m_isTag_104 : decode M_m_isTag.2.1 104 = .ok (.aload_n 0, 1) := by decide +kernel
theorem d_m_isTag_105 : decode M_m_isTag.2.1 105 = .ok (.iload_n 1, 1) := by decide +kernel
theorem d_m_isTag_106 : decode M_m_isTag.2.1 106 = .ok (.iload_n 2, 1) := by decide +kernel
theorem d_m_isTag_107 : decode M_m_isTag.2.1 107 = .ok (.iconst 5, 1) := by decide +kernel
theorem d_m_isTag_108 : decode M_m_isTag.2.1 108 = .ok (.iadd, 1) := by decide +kernel
theorem d_m_isTag_109 : decode M_m_isTag.2.1 109 = .ok (.invokevirtual 40, 3) := by decide +kernel
theorem d_m_isTag_112 : decode M_m_isTag.2.1 112 = .ok (.bipush 42, 2) := by decide +kernel
theorem d_m_isTag_114 : decode M_m_isTag.2.1 114 = .ok (.if_icmp .ne 7, 3) := by decide +kernel
theorem d_m_isTag_117 : decode M_m_isTag.2.1 117 = .ok (.iconst 1, 1) := by decide +kernel
theorem d_m_isTag_118 : decode M_m_isTag.2.1 118 = .ok (.goto 4, 3) := by decide +kernel
theorem d_m_isTag_121 : decode M_m_isTag.2.1 121 = .ok (.iconst 0, 1) := by decide +kernel
theorem d_m_isTag_122 : decode M_m_isTag.2.1 122 = .ok (.ireturn, 1) := by decide +kernel
theorem d_m_isTag_123 : decode M_m_isTag.2.1 123 = .ok (.aload_n 0, 1) := by decide +kernel
theorem d_m_isTag_124 : decode M_m_isTag.2.1 124 = .ok (.aload_n 0, 1) := by decide +kernel
theorem d_m_isTag_125 : decode M_m_isTag.2.1 125 = .ok (.iload_n 1, 1) := by decide +kernel
theorem d_m_isTag_126 : decode M_m_isTag.2.1 126 = .ok (.iload_n 2, 1) := by decide +kernel
theorem d_m_isTag_127 : decode M_m_isTag.2.1 127 = .ok (.iconst 5, 1) := by decide +kernel
theorem d_m_isTag_128 : decode M_m_isTag.2.1 128 = .ok (.iadd, 1) := by decide +kernel
theorem d_m_isTag_129 : decode M_m_isTag.2.1 129 = .ok (.invokevirtual 67, 3) := by decide +kernel
theorem d_m_isTag_132 : decode M_m_isTag.2.1 132 = .ok (.putfield 58, 3) := by decide +kernel
theorem d_m_isTag_135 : decode M_m_isTag.2.1 135 = .ok (.aload_n 0, 1) := by decide +kernel
theorem d_m_isTag_136 : decode M_m_isTag.2.1 136 = .ok (.getfield 58, 3) := by decide +kernel
theorem d_m_isTag_139 : decode M_m_isTag.2.1 139 = .ok (.ifCond .lt 7, 3) := by decide +kernel
theorem d_m_isTag_142 : decode M_m_isTag.2.1 142 = .ok (.iconst 1, 1) := by decide +kernel
theorem d_m_isTag_143 : decode M_m_isTag.2.1 143 = .ok (.goto 4, 3) := by decide +kernel
theorem d_m_isTag_146 : decode M_m_isTag.2.1 146 = .ok (.iconst 0, 1) := by decide +kernel
theorem d_m_isTag_147 : decode M_m_isTag.2.1 147 = .ok (.ireturn, 1) := by decide +kernel
theorem d_m_find_0 : decode M_m_find.2.1 0 = .ok (.bipush 32, 2) := by decide +kernel
theorem d_m_find_2 : decode M_m_find.2.1 2 = .ok (.iload_n 1, 1) := by decide +kernel
theorem d_m_find_3 : decode M_m_find.2.1 3 = .ok (.imul, 1) := by decide +kernel
theorem d_m_find_4 : decode M_m_find.2.1 4 = .ok (.istore_n 3, 1) := by decide +kernel
theorem d_m_find_5 : decode M_m_find.2.1 5 = .ok (.iload_n 3, 1) := by decide +kernel
theorem d_m_find_6 : decode M_m_find.2.1 6 = .ok (.bipush 32, 2) := by decide +kernel
theorem d_m_find_8 : decode M_m_find.2.1 8 = .ok (.iload_n 1, 1) := by decide +kernel
theorem d_m_find_9 : decode M_m_find.2.1 9 = .ok (.imul, 1) := by decide +kernel
theorem d_m_find_10 : decode M_m_find.2.1 10 = .ok (.aload_n 0, 1) := by decide +kernel
theorem d_m_find_11 : decode M_m_find.2.1 11 = .ok (.getfield 20, 3) := by decide +kernel
theorem d_m_find_14 : decode M_m_find.2.1 14 = .ok (.iload_n 1, 1) := by decide +kernel
theorem d_m_find_15 : decode M_m_find.2.1 15 = .ok (.iaload, 1) := by decide +kernel
theorem d_m_find_16 : decode M_m_find.2.1 16 = .ok (.iadd, 1) := by decide +kernel
theorem d_m_find_17 : decode M_m_find.2.1 17 = .ok (.if_icmp .ge 21, 3) := by decide +kernel
theorem d_m_find_20 : decode M_m_find.2.1 20 = .ok (.aload_n 0, 1) := by decide +kernel
theorem d_m_find_21 : decode M_m_find.2.1 21 = .ok (.getfield 17, 3) := by decide +kernel
theorem d_m_find_24 : decode M_m_find.2.1 24 = .ok (.iload_n 3, 1) := by decide +kernel
theorem d_m_find_25 : decode M_m_find.2.1 25 = .ok (.iaload, 1) := by decide +kernel
theorem d_m_find_26 : decode M_m_find.2.1 26 = .ok (.iload_n 2, 1) := by decide +kernel
theorem d_m_find_27 : decode M_m_find.2.1 27 = .ok (.if_icmp .ne 5, 3) := by decide +kernel
theorem d_m_find_30 : decode M_m_find.2.1 30 = .ok (.iload_n 3, 1) := by decide +kernel
theorem d_m_find_31 : decode M_m_find.2.1 31 = .ok (.ireturn, 1) := by decide +kernel
theorem d_m_find_32 : decode M_m_find.2.1 32 = .ok (.iinc 3 1, 3) := by decide +kernel
theorem d_m_find_35 : decode M_m_find.2.1 35 = .ok (.goto (-30), 3) := by decide +kernel
theorem d_m_find_38 : decode M_m_find.2.1 38 = .ok (.iconst (-1), 1) := by decide +kernel
theorem d_m_find_39 : decode M_m_find.2.1 39 = .ok (.ireturn, 1) := by decide +kernel
theorem d_m_put_0 : decode M_m_put.2.1 0 = .ok (.iload_n 1, 1) := by decide +kernel
theorem d_m_put_1 : decode M_m_put.2.1 1 = .ok (.invokestatic 129, 3) := by decide +kernel
theorem d_m_put_4 : decode M_m_put.2.1 4 = .ok (.ifCond .eq 13, 3) := by decide +kernel
theorem d_m_put_7 : decode M_m_put.2.1 7 = .ok (.aload_n 0, 1) := by decide +kernel
theorem d_m_put_8 : decode M_m_put.2.1 8 = .ok (.getfield 13, 3) := by decide +kernel
theorem d_m_put_11 : decode M_m_put.2.1 11 = .ok (.bipush 64, 2) := by decide +kernel
theorem d_m_put_13 : decode M_m_put.2.1 13 = .ok (.iaload, 1) := by decide +kernel
theorem d_m_put_14 : decode M_m_put.2.1 14 = .ok (.ifCond .ne 5, 3) := by decide +kernel
theorem d_m_put_17 : decode M_m_put.2.1 17 = .ok (.iconst (-1), 1) := by decide +kernel
theorem d_m_put_18 : decode M_m_put.2.1 18 = .ok (.ireturn, 1) := by decide +kernel
theorem d_m_put_19 : decode M_m_put.2.1 19 = .ok (.aload_n 0, 1) := by decide +kernel
theorem d_m_put_20 : decode M_m_put.2.1 20 = .ok (.bipush 7, 2) := by decide +kernel
theorem d_m_put_22 : decode M_m_put.2.1 22 = .ok (.bipush 64, 2) := by decide +kernel
theorem d_m_put_24 : decode M_m_put.2.1 24 = .ok (.aload_n 0, 1) := by decide +kernel
theorem d_m_put_25 : decode M_m_put.2.1 25 = .ok (.getfield 13, 3) := by decide +kernel
theorem d_m_put_28 : decode M_m_put.2.1 28 = .ok (.bipush 64, 2) := by decide +kernel
theorem d_m_put_30 : decode M_m_put.2.1 30 = .ok (.iaload, 1) := by decide +kernel
theorem d_m_put_31 : decode M_m_put.2.1 31 = .ok (.invokevirtual 94, 3) := by decide +kernel
theorem d_m_put_34 : decode M_m_put.2.1 34 = .ok (.istore_n 2, 1) := by decide +kernel
theorem d_m_put_35 : decode M_m_put.2.1 35 = .ok (.aload_n 0, 1) := by decide +kernel
theorem d_m_put_36 : decode M_m_put.2.1 36 = .ok (.getfield 20, 3) := by decide +kernel
theorem d_m_put_39 : decode M_m_put.2.1 39 = .ok (.iload_n 1, 1) := by decide +kernel
theorem d_m_put_40 : decode M_m_put.2.1 40 = .ok (.iaload, 1) := by decide +kernel
theorem d_m_put_41 : decode M_m_put.2.1 41 = .ok (.bipush 32, 2) := by decide +kernel
theorem d_m_put_43 : decode M_m_put.2.1 43 = .ok (.if_icmp .ne 14, 3) := by decide +kernel
theorem d_m_put_46 : decode M_m_put.2.1 46 = .ok (.aload_n 0, 1) := by decide +kernel
theorem d_m_put_47 : decode M_m_put.2.1 47 = .ok (.iload_n 1, 1) := by decide +kernel
theorem d_m_put_48 : decode M_m_put.2.1 48 = .ok (.iload_n 2, 1) := by decide +kernel
theorem d_m_put_49 : decode M_m_put.2.1 49 = .ok (.invokevirtual 98, 3) := by decide +kernel
theorem d_m_put_52 : decode M_m_put.2.1 52 = .ok (.ifCond .ge 5, 3) := by decide +kernel
theorem d_m_put_55 : decode M_m_put.2.1 55 = .ok (.iconst (-1), 1) := by decide +kernel
theorem d_m_put_56 : decode M_m_put.2.1 56 = .ok (.ireturn, 1) := by decide +kernel
theorem d_m_put_57 : decode M_m_put.2.1 57 = .ok (.aload_n 0, 1) := by decide +kernel
theorem d_m_put_58 : decode M_m_put.2.1 58 = .ok (.iload_n 1, 1) := by decide +kernel
theorem d_m_put_59 : decode M_m_put.2.1 59 = .ok (.bipush 64, 2) := by decide +kernel
theorem d_m_put_61 : decode M_m_put.2.1 61 = .ok (.iload_n 2, 1) := by decide +kernel
theorem d_m_put_62 : decode M_m_put.2.1 62 = .ok (.invokevirtual 132, 3) := by decide +kernel
theorem d_m_put_65 : decode M_m_put.2.1 65 = .ok (.aload_n 0, 1) := by decide +kernel
theorem d_m_put_66 : decode M_m_put.2.1 66 = .ok (.getfield 13, 3) := by decide +kernel
theorem d_m_put_69 : decode M_m_put.2.1 69 = .ok (.bipush 64, 2) := by decide +kernel
theorem d_m_put_71 : decode M_m_put.2.1 71 = .ok (.iconst 0, 1) := by decide +kernel
theorem d_m_put_72 : decode M_m_put.2.1 72 = .ok (.iastore, 1) := by decide +kernel
theorem d_m_put_73 : decode M_m_put.2.1 73 = .ok (.iload_n 2, 1) := by decide +kernel
theorem d_m_put_74 : decode M_m_put.2.1 74 = .ok (.ireturn, 1) := by decide +kernel
theorem d_m_hold_0 : decode M_m_hold.2.1 0 = .ok (.aload_n 0, 1) := by decide +kernel
theorem d_m_hold_1 : decode M_m_hold.2.1 1 = .ok (.iload_n 1, 1) := by decide +kernel
theorem d_m_hold_2 : decode M_m_hold.2.1 2 = .ok (.iload_n 3, 1) := by decide +kernel
theorem d_m_hold_3 : decode M_m_hold.2.1 3 = .ok (.invokevirtual 98, 3) := by decide +kernel
theorem d_m_hold_6 : decode M_m_hold.2.1 6 = .ok (.ifCond .ge 14, 3) := by decide +kernel
theorem d_m_hold_9 : decode M_m_hold.2.1 9 = .ok (.aload_n 0, 1) := by decide +kernel
theorem d_m_hold_10 : decode M_m_hold.2.1 10 = .ok (.getfield 20, 3) := by decide +kernel
theorem d_m_hold_13 : decode M_m_hold.2.1 13 = .ok (.iload_n 1, 1) := by decide +kernel
theorem d_m_hold_14 : decode M_m_hold.2.1 14 = .ok (.iaload, 1) := by decide +kernel
theorem d_m_hold_15 : decode M_m_hold.2.1 15 = .ok (.bipush 32, 2) := by decide +kernel
theorem d_m_hold_17 : decode M_m_hold.2.1 17 = .ok (.if_icmp .ne 4, 3) := by decide +kernel
theorem d_m_hold_20 : decode M_m_hold.2.1 20 = .ok (.return_, 1) := by decide +kernel
theorem d_m_hold_21 : decode M_m_hold.2.1 21 = .ok (.bipush 32, 2) := by decide +kernel
theorem d_m_hold_23 : decode M_m_hold.2.1 23 = .ok (.iload_n 1, 1) := by decide +kernel
theorem d_m_hold_24 : decode M_m_hold.2.1 24 = .ok (.imul, 1) := by decide +kernel
theorem d_m_hold_25 : decode M_m_hold.2.1 25 = .ok (.aload_n 0, 1) := by decide +kernel
theorem d_m_hold_26 : decode M_m_hold.2.1 26 = .ok (.getfield 20, 3) := by decide +kernel
theorem d_m_hold_29 : decode M_m_hold.2.1 29 = .ok (.iload_n 1, 1) := by decide +kernel
theorem d_m_hold_30 : decode M_m_hold.2.1 30 = .ok (.iaload, 1) := by decide +kernel
theorem d_m_hold_31 : decode M_m_hold.2.1 31 = .ok (.iadd, 1) := by decide +kernel
theorem d_m_hold_32 : decode M_m_hold.2.1 32 = .ok (.istore 4, 2) := by decide +kernel
theorem d_m_hold_34 : decode M_m_hold.2.1 34 = .ok (.iconst 0, 1) := by decide +kernel
theorem d_m_hold_35 : decode M_m_hold.2.1 35 = .ok (.istore 5, 2) := by decide +kernel
theorem d_m_hold_37 : decode M_m_hold.2.1 37 = .ok (.iload 5, 2) := by decide +kernel
theorem d_m_hold_39 : decode M_m_hold.2.1 39 = .ok (.aload_n 0, 1) := by decide +kernel
theorem d_m_hold_40 : decode M_m_hold.2.1 40 = .ok (.getfield 13, 3) := by decide +kernel
theorem d_m_hold_43 : decode M_m_hold.2.1 43 = .ok (.iload_n 2, 1) := by decide +kernel
theorem d_m_hold_44 : decode M_m_hold.2.1 44 = .ok (.iaload, 1) := by decide +kernel
theorem d_m_hold_45 : decode M_m_hold.2.1 45 = .ok (.if_icmp .ge 36, 3) := by decide +kernel
theorem d_m_hold_48 : decode M_m_hold.2.1 48 = .ok (.aload_n 0, 1) := by decide +kernel
theorem d_m_hold_49 : decode M_m_hold.2.1 49 = .ok (.getfield 7, 3) := by decide +kernel
theorem d_m_hold_52 : decode M_m_hold.2.1 52 = .ok (.sipush 240, 3) := by decide +kernel
theorem d_m_hold_55 : decode M_m_hold.2.1 55 = .ok (.iload 4, 2) := by decide +kernel
theorem d_m_hold_57 : decode M_m_hold.2.1 57 = .ok (.imul, 1) := by decide +kernel
theorem d_m_hold_58 : decode M_m_hold.2.1 58 = .ok (.iload 5, 2) := by decide +kernel
theorem d_m_hold_60 : decode M_m_hold.2.1 60 = .ok (.iadd, 1) := by decide +kernel
theorem d_m_hold_61 : decode M_m_hold.2.1 61 = .ok (.aload_n 0, 1) := by decide +kernel
theorem d_m_hold_62 : decode M_m_hold.2.1 62 = .ok (.getfield 7, 3) := by decide +kernel
theorem d_m_hold_65 : decode M_m_hold.2.1 65 = .ok (.sipush 240, 3) := by decide +kernel
theorem d_m_hold_68 : decode M_m_hold.2.1 68 = .ok (.iload_n 2, 1) := by decide +kernel
theorem d_m_hold_69 : decode M_m_hold.2.1 69 = .ok (.imul, 1) := by decide +kernel
theorem d_m_hold_70 : decode M_m_hold.2.1 70 = .ok (.iload 5, 2) := by decide +kernel
theorem d_m_hold_72 : decode M_m_hold.2.1 72 = .ok (.iadd, 1) := by decide +kernel
theorem d_m_hold_73 : decode M_m_hold.2.1 73 = .ok (.baload, 1) := by decide +kernel
theorem d_m_hold_74 : decode M_m_hold.2.1 74 = .ok (.bastore, 1) := by decide +kernel
theorem d_m_hold_75 : decode M_m_hold.2.1 75 = .ok (.iinc 5 1, 3) := by decide +kernel
theorem d_m_hold_78 : decode M_m_hold.2.1 78 = .ok (.goto (-41), 3) := by decide +kernel
theorem d_m_hold_81 : decode M_m_hold.2.1 81 = .ok (.aload_n 0, 1) := by decide +kernel
theorem d_m_hold_82 : decode M_m_hold.2.1 82 = .ok (.getfield 13, 3) := by decide +kernel
theorem d_m_hold_85 : decode M_m_hold.2.1 85 = .ok (.iload 4, 2) := by decide +kernel
theorem d_m_hold_87 : decode M_m_hold.2.1 87 = .ok (.aload_n 0, 1) := by decide +kernel
theorem d_m_hold_88 : decode M_m_hold.2.1 88 = .ok (.getfield 13, 3) := by decide +kernel
theorem d_m_hold_91 : decode M_m_hold.2.1 91 = .ok (.iload_n 2, 1) := by decide +kernel
theorem d_m_hold_92 : decode M_m_hold.2.1 92 = .ok (.iaload, 1) := by decide +kernel
theorem d_m_hold_93 : decode M_m_hold.2.1 93 = .ok (.iastore, 1) := by decide +kernel
theorem d_m_hold_94 : decode M_m_hold.2.1 94 = .ok (.aload_n 0, 1) := by decide +kernel
theorem d_m_hold_95 : decode M_m_hold.2.1 95 = .ok (.getfield 17, 3) := by decide +kernel
theorem d_m_hold_98 : decode M_m_hold.2.1 98 = .ok (.iload 4, 2) := by decide +kernel
theorem d_m_hold_100 : decode M_m_hold.2.1 100 = .ok (.iload_n 3, 1) := by decide +kernel
theorem d_m_hold_101 : decode M_m_hold.2.1 101 = .ok (.iastore, 1) := by decide +kernel
theorem d_m_hold_102 : decode M_m_hold.2.1 102 = .ok (.aload_n 0, 1) := by decide +kernel
theorem d_m_hold_103 : decode M_m_hold.2.1 103 = .ok (.getfield 20, 3) := by decide +kernel
theorem d_m_hold_106 : decode M_m_hold.2.1 106 = .ok (.iload_n 1, 1) := by decide +kernel
theorem d_m_hold_107 : decode M_m_hold.2.1 107 = .ok (.dup2, 1) := by decide +kernel
theorem d_m_hold_108 : decode M_m_hold.2.1 108 = .ok (.iaload, 1) := by decide +kernel
theorem d_m_hold_109 : decode M_m_hold.2.1 109 = .ok (.iconst 1, 1) := by decide +kernel
theorem d_m_hold_110 : decode M_m_hold.2.1 110 = .ok (.iadd, 1) := by decide +kernel
theorem d_m_hold_111 : decode M_m_hold.2.1 111 = .ok (.iastore, 1) := by decide +kernel
theorem d_m_hold_112 : decode M_m_hold.2.1 112 = .ok (.return_, 1) := by decide +kernel
theorem d_m_round_0 : decode M_m_round.2.1 0 = .ok (.iload_n 1, 1) := by decide +kernel
theorem d_m_round_1 : decode M_m_round.2.1 1 = .ok (.ifCond .lt 10, 3) := by decide +kernel
theorem d_m_round_4 : decode M_m_round.2.1 4 = .ok (.iload_n 1, 1) := by decide +kernel
theorem d_m_round_5 : decode M_m_round.2.1 5 = .ok (.sipush 10000, 3) := by decide +kernel
theorem d_m_round_8 : decode M_m_round.2.1 8 = .ok (.if_icmp .le 5, 3) := by decide +kernel
theorem d_m_round_11 : decode M_m_round.2.1 11 = .ok (.iconst (-1), 1) := by decide +kernel
theorem d_m_round_12 : decode M_m_round.2.1 12 = .ok (.ireturn, 1) := by decide +kernel
theorem d_m_round_13 : decode M_m_round.2.1 13 = .ok (.aload_n 0, 1) := by decide +kernel
theorem d_m_round_14 : decode M_m_round.2.1 14 = .ok (.iconst 0, 1) := by decide +kernel
theorem d_m_round_15 : decode M_m_round.2.1 15 = .ok (.invokevirtual 158, 3) := by decide +kernel
theorem d_m_round_18 : decode M_m_round.2.1 18 = .ok (.aload_n 0, 1) := by decide +kernel
theorem d_m_round_19 : decode M_m_round.2.1 19 = .ok (.iconst 1, 1) := by decide +kernel
theorem d_m_round_20 : decode M_m_round.2.1 20 = .ok (.invokevirtual 158, 3) := by decide +kernel
theorem d_m_round_23 : decode M_m_round.2.1 23 = .ok (.aload_n 0, 1) := by decide +kernel
theorem d_m_round_24 : decode M_m_round.2.1 24 = .ok (.iconst 0, 1) := by decide +kernel
theorem d_m_round_25 : decode M_m_round.2.1 25 = .ok (.iload_n 1, 1) := by decide +kernel
theorem d_m_round_26 : decode M_m_round.2.1 26 = .ok (.invokevirtual 161, 3) := by decide +kernel
theorem d_m_round_29 : decode M_m_round.2.1 29 = .ok (.istore_n 2, 1) := by decide +kernel
theorem d_m_round_30 : decode M_m_round.2.1 30 = .ok (.iload_n 2, 1) := by decide +kernel
theorem d_m_round_31 : decode M_m_round.2.1 31 = .ok (.aload_n 0, 1) := by decide +kernel
theorem d_m_round_32 : decode M_m_round.2.1 32 = .ok (.iconst 1, 1) := by decide +kernel
theorem d_m_round_33 : decode M_m_round.2.1 33 = .ok (.iload_n 1, 1) := by decide +kernel
theorem d_m_round_34 : decode M_m_round.2.1 34 = .ok (.invokevirtual 161, 3) := by decide +kernel
theorem d_m_round_37 : decode M_m_round.2.1 37 = .ok (.iadd, 1) := by decide +kernel
theorem d_m_round_38 : decode M_m_round.2.1 38 = .ok (.ireturn, 1) := by decide +kernel
theorem d_m_makeCluster_0 : decode M_m_makeCluster.2.1 0 = .ok (.aload_n 0, 1) := by decide +kernel
theorem d_m_makeCluster_1 : decode M_m_makeCluster.2.1 1 = .ok (.iload_n 1, 1) := by decide +kernel
theorem d_m_makeCluster_2 : decode M_m_makeCluster.2.1 2 = .ok (.invokevirtual 149, 3) := by decide +kernel
theorem d_m_makeCluster_5 : decode M_m_makeCluster.2.1 5 = .ok (.aload_n 0, 1) := by decide +kernel
theorem d_m_makeCluster_6 : decode M_m_makeCluster.2.1 6 = .ok (.getfield 136, 3) := by decide +kernel
theorem d_m_makeCluster_9 : decode M_m_makeCluster.2.1 9 = .ok (.iconst 5, 1) := by decide +kernel
theorem d_m_makeCluster_10 : decode M_m_makeCluster.2.1 10 = .ok (.if_icmp .gt 4, 3) := by decide +kernel
theorem d_m_makeCluster_13 : decode M_m_makeCluster.2.1 13 = .ok (.return_, 1) := by decide +kernel
theorem d_m_makeCluster_14 : decode M_m_makeCluster.2.1 14 = .ok (.aload_n 0, 1) := by decide +kernel
theorem d_m_makeCluster_15 : decode M_m_makeCluster.2.1 15 = .ok (.getfield 13, 3) := by decide +kernel
theorem d_m_makeCluster_18 : decode M_m_makeCluster.2.1 18 = .ok (.bipush 65, 2) := by decide +kernel
theorem d_m_makeCluster_20 : decode M_m_makeCluster.2.1 20 = .ok (.iconst 0, 1) := by decide +kernel
theorem d_m_makeCluster_21 : decode M_m_makeCluster.2.1 21 = .ok (.iastore, 1) := by decide +kernel
theorem d_m_makeCluster_22 : decode M_m_makeCluster.2.1 22 = .ok (.iconst 0, 1) := by decide +kernel
theorem d_m_makeCluster_23 : decode M_m_makeCluster.2.1 23 = .ok (.istore_n 2, 1) := by decide +kernel
theorem d_m_makeCluster_24 : decode M_m_makeCluster.2.1 24 = .ok (.iload_n 2, 1) := by decide +kernel
theorem d_m_makeCluster_25 : decode M_m_makeCluster.2.1 25 = .ok (.aload_n 0, 1) := by decide +kernel
theorem d_m_makeCluster_26 : decode M_m_makeCluster.2.1 26 = .ok (.getfield 136, 3) := by decide +kernel
theorem d_m_makeCluster_29 : decode M_m_makeCluster.2.1 29 = .ok (.if_icmp .ge 51, 3) := by decide +kernel
theorem d_m_makeCluster_32 : decode M_m_makeCluster.2.1 32 = .ok (.iload_n 2, 1) := by decide +kernel
theorem d_m_makeCluster_33 : decode M_m_makeCluster.2.1 33 = .ok (.bipush 20, 2) := by decide +kernel
theorem d_m_makeCluster_35 : decode M_m_makeCluster.2.1 35 = .ok (.if_icmp .ge 45, 3) := by decide +kernel
theorem d_m_makeCluster_38 : decode M_m_makeCluster.2.1 38 = .ok (.aload_n 0, 1) := by decide +kernel
theorem d_m_makeCluster_39 : decode M_m_makeCluster.2.1 39 = .ok (.bipush 65, 2) := by decide +kernel
theorem d_m_makeCluster_41 : decode M_m_makeCluster.2.1 41 = .ok (.bipush 77, 2) := by decide +kernel
theorem d_m_makeCluster_43 : decode M_m_makeCluster.2.1 43 = .ok (.invokevirtual 111, 3) := by decide +kernel
theorem d_m_makeCluster_46 : decode M_m_makeCluster.2.1 46 = .ok (.aload_n 0, 1) := by decide +kernel
theorem d_m_makeCluster_47 : decode M_m_makeCluster.2.1 47 = .ok (.bipush 65, 2) := by decide +kernel
theorem d_m_makeCluster_49 : decode M_m_makeCluster.2.1 49 = .ok (.bipush 32, 2) := by decide +kernel
theorem d_m_makeCluster_51 : decode M_m_makeCluster.2.1 51 = .ok (.invokevirtual 111, 3) := by decide +kernel
theorem d_m_makeCluster_54 : decode M_m_makeCluster.2.1 54 = .ok (.aload_n 0, 1) := by decide +kernel
theorem d_m_makeCluster_55 : decode M_m_makeCluster.2.1 55 = .ok (.bipush 65, 2) := by decide +kernel
theorem d_m_makeCluster_57 : decode M_m_makeCluster.2.1 57 = .ok (.aload_n 0, 1) := by decide +kernel
theorem d_m_makeCluster_58 : decode M_m_makeCluster.2.1 58 = .ok (.getfield 35, 3) := by decide +kernel
theorem d_m_makeCluster_61 : decode M_m_makeCluster.2.1 61 = .ok (.iload_n 2, 1) := by decide +kernel
theorem d_m_makeCluster_62 : decode M_m_makeCluster.2.1 62 = .ok (.iaload, 1) := by decide +kernel
theorem d_m_makeCluster_63 : decode M_m_makeCluster.2.1 63 = .ok (.invokevirtual 124, 3) := by decide +kernel
theorem d_m_makeCluster_66 : decode M_m_makeCluster.2.1 66 = .ok (.aload_n 0, 1) := by decide +kernel
theorem d_m_makeCluster_67 : decode M_m_makeCluster.2.1 67 = .ok (.bipush 65, 2) := by decide +kernel
theorem d_m_makeCluster_69 : decode M_m_makeCluster.2.1 69 = .ok (.bipush 10, 2) := by decide +kernel
theorem d_m_makeCluster_71 : decode M_m_makeCluster.2.1 71 = .ok (.invokevirtual 111, 3) := by decide +kernel
theorem d_m_makeCluster_74 : decode M_m_makeCluster.2.1 74 = .ok (.iinc 2 1, 3) := by decide +kernel
theorem d_m_makeCluster_77 : decode M_m_makeCluster.2.1 77 = .ok (.goto (-53), 3) := by decide +kernel
theorem d_m_makeCluster_80 : decode M_m_makeCluster.2.1 80 = .ok (.aload_n 0, 1) := by decide +kernel
theorem d_m_makeCluster_81 : decode M_m_makeCluster.2.1 81 = .ok (.bipush 7, 2) := by decide +kernel
theorem d_m_makeCluster_83 : decode M_m_makeCluster.2.1 83 = .ok (.bipush 65, 2) := by decide +kernel
theorem d_m_makeCluster_85 : decode M_m_makeCluster.2.1 85 = .ok (.aload_n 0, 1) := by decide +kernel
theorem d_m_makeCluster_86 : decode M_m_makeCluster.2.1 86 = .ok (.getfield 13, 3) := by decide +kernel
theorem d_m_makeCluster_89 : decode M_m_makeCluster.2.1 89 = .ok (.bipush 65, 2) := by decide +kernel
theorem d_m_makeCluster_91 : decode M_m_makeCluster.2.1 91 = .ok (.iaload, 1) := by decide +kernel
theorem d_m_makeCluster_92 : decode M_m_makeCluster.2.1 92 = .ok (.invokevirtual 94, 3) := by decide +kernel
theorem d_m_makeCluster_95 : decode M_m_makeCluster.2.1 95 = .ok (.istore_n 2, 1) := by decide +kernel
theorem d_m_makeCluster_96 : decode M_m_makeCluster.2.1 96 = .ok (.aload_n 0, 1) := by decide +kernel
theorem d_m_makeCluster_97 : decode M_m_makeCluster.2.1 97 = .ok (.bipush 65, 2) := by decide +kernel
theorem d_m_makeCluster_99 : decode M_m_makeCluster.2.1 99 = .ok (.bipush 90, 2) := by decide +kernel
theorem d_m_makeCluster_101 : decode M_m_makeCluster.2.1 101 = .ok (.invokevirtual 111, 3) := by decide +kernel
theorem d_m_makeCluster_104 : decode M_m_makeCluster.2.1 104 = .ok (.aload_n 0, 1) := by decide +kernel
theorem d_m_makeCluster_105 : decode M_m_makeCluster.2.1 105 = .ok (.bipush 65, 2) := by decide +kernel
theorem d_m_makeCluster_107 : decode M_m_makeCluster.2.1 107 = .ok (.bipush 32, 2) := by decide +kernel
theorem d_m_makeCluster_109 : decode M_m_makeCluster.2.1 109 = .ok (.invokevirtual 111, 3) := by decide +kernel
theorem d_m_makeCluster_112 : decode M_m_makeCluster.2.1 112 = .ok (.aload_n 0, 1) := by decide +kernel
theorem d_m_makeCluster_113 : decode M_m_makeCluster.2.1 113 = .ok (.bipush 65, 2) := by decide +kernel
theorem d_m_makeCluster_115 : decode M_m_makeCluster.2.1 115 = .ok (.iload_n 2, 1) := by decide +kernel
theorem d_m_makeCluster_116 : decode M_m_makeCluster.2.1 116 = .ok (.invokevirtual 124, 3) := by decide +kernel
theorem d_m_makeCluster_119 : decode M_m_makeCluster.2.1 119 = .ok (.aload_n 0, 1) := by decide +kernel
theorem d_m_makeCluster_120 : decode M_m_makeCluster.2.1 120 = .ok (.bipush 65, 2) := by decide +kernel
theorem d_m_makeCluster_122 : decode M_m_makeCluster.2.1 122 = .ok (.bipush 10, 2) := by decide +kernel
theorem d_m_makeCluster_124 : decode M_m_makeCluster.2.1 124 = .ok (.invokevirtual 111, 3) := by decide +kernel
theorem d_m_makeCluster_127 : decode M_m_makeCluster.2.1 127 = .ok (.aload_n 0, 1) := by decide +kernel
theorem d_m_makeCluster_128 : decode M_m_makeCluster.2.1 128 = .ok (.bipush 7, 2) := by decide +kernel
theorem d_m_makeCluster_130 : decode M_m_makeCluster.2.1 130 = .ok (.bipush 65, 2) := by decide +kernel
theorem d_m_makeCluster_132 : decode M_m_makeCluster.2.1 132 = .ok (.aload_n 0, 1) := by decide +kernel
theorem d_m_makeCluster_133 : decode M_m_makeCluster.2.1 133 = .ok (.getfield 13, 3) := by decide +kernel
theorem d_m_makeCluster_136 : decode M_m_makeCluster.2.1 136 = .ok (.bipush 65, 2) := by decide +kernel
theorem d_m_makeCluster_138 : decode M_m_makeCluster.2.1 138 = .ok (.iaload, 1) := by decide +kernel
theorem d_m_makeCluster_139 : decode M_m_makeCluster.2.1 139 = .ok (.invokevirtual 94, 3) := by decide +kernel
theorem d_m_makeCluster_142 : decode M_m_makeCluster.2.1 142 = .ok (.istore_n 3, 1) := by decide +kernel
theorem d_m_makeCluster_143 : decode M_m_makeCluster.2.1 143 = .ok (.aload_n 0, 1) := by decide +kernel
theorem d_m_makeCluster_144 : decode M_m_makeCluster.2.1 144 = .ok (.iload_n 1, 1) := by decide +kernel
theorem d_m_makeCluster_145 : decode M_m_makeCluster.2.1 145 = .ok (.bipush 65, 2) := by decide +kernel
theorem d_m_makeCluster_147 : decode M_m_makeCluster.2.1 147 = .ok (.iload_n 3, 1) := by decide +kernel
theorem d_m_makeCluster_148 : decode M_m_makeCluster.2.1 148 = .ok (.invokevirtual 132, 3) := by decide +kernel
theorem d_m_makeCluster_151 : decode M_m_makeCluster.2.1 151 = .ok (.return_, 1) := by decide +kernel
theorem d_m_listLoose_0 : decode M_m_listLoose.2.1 0 = .ok (.aload_n 0, 1) := by decide +kernel
theorem d_m_listLoose_1 : decode M_m_listLoose.2.1 1 = .ok (.iconst 0, 1) := by decide +kernel
theorem d_m_listLoose_2 : decode M_m_listLoose.2.1 2 = .ok (.putfield 136, 3) := by decide +kernel
theorem d_m_listLoose_5 : decode M_m_listLoose.2.1 5 = .ok (.bipush 32, 2) := by decide +kernel
theorem d_m_listLoose_7 : decode M_m_listLoose.2.1 7 = .ok (.iload_n 1, 1) := by decide +kernel
theorem d_m_listLoose_8 : decode M_m_listLoose.2.1 8 = .ok (.imul, 1) := by decide +kernel
theorem d_m_listLoose_9 : decode M_m_listLoose.2.1 9 = .ok (.istore_n 2, 1) := by decide +kernel
theorem d_m_listLoose_10 : decode M_m_listLoose.2.1 10 = .ok (.iload_n 2, 1) := by decide +kernel
theorem d_m_listLoose_11 : decode M_m_listLoose.2.1 11 = .ok (.bipush 32, 2) := by decide +kernel
theorem d_m_listLoose_13 : decode M_m_listLoose.2.1 13 = .ok (.iload_n 1, 1) := by decide +kernel
theorem d_m_listLoose_14 : decode M_m_listLoose.2.1 14 = .ok (.imul, 1) := by decide +kernel
theorem d_m_listLoose_15 : decode M_m_listLoose.2.1 15 = .ok (.aload_n 0, 1) := by decide +kernel
theorem d_m_listLoose_16 : decode M_m_listLoose.2.1 16 = .ok (.getfield 20, 3) := by decide +kernel
theorem d_m_listLoose_19 : decode M_m_listLoose.2.1 19 = .ok (.iload_n 1, 1) := by decide +kernel
theorem d_m_listLoose_20 : decode M_m_listLoose.2.1 20 = .ok (.iaload, 1) := by decide +kernel
theorem d_m_listLoose_21 : decode M_m_listLoose.2.1 21 = .ok (.iadd, 1) := by decide +kernel
theorem d_m_listLoose_22 : decode M_m_listLoose.2.1 22 = .ok (.if_icmp .ge 33, 3) := by decide +kernel
theorem d_m_listLoose_25 : decode M_m_listLoose.2.1 25 = .ok (.aload_n 0, 1) := by decide +kernel
theorem d_m_listLoose_26 : decode M_m_listLoose.2.1 26 = .ok (.iload_n 1, 1) := by decide +kernel
theorem d_m_listLoose_27 : decode M_m_listLoose.2.1 27 = .ok (.aload_n 0, 1) := by decide +kernel
theorem d_m_listLoose_28 : decode M_m_listLoose.2.1 28 = .ok (.getfield 17, 3) := by decide +kernel
theorem d_m_listLoose_31 : decode M_m_listLoose.2.1 31 = .ok (.iload_n 2, 1) := by decide +kernel
theorem d_m_listLoose_32 : decode M_m_listLoose.2.1 32 = .ok (.iaload, 1) := by decide +kernel
theorem d_m_listLoose_33 : decode M_m_listLoose.2.1 33 = .ok (.invokevirtual 139, 3) := by decide +kernel
theorem d_m_listLoose_36 : decode M_m_listLoose.2.1 36 = .ok (.ifCond .ne 13, 3) := by decide +kernel
theorem d_m_listLoose_39 : decode M_m_listLoose.2.1 39 = .ok (.aload_n 0, 1) := by decide +kernel
theorem d_m_listLoose_40 : decode M_m_listLoose.2.1 40 = .ok (.aload_n 0, 1) := by decide +kernel
theorem d_m_listLoose_41 : decode M_m_listLoose.2.1 41 = .ok (.getfield 17, 3) := by decide +kernel
theorem d_m_listLoose_44 : decode M_m_listLoose.2.1 44 = .ok (.iload_n 2, 1) := by decide +kernel
theorem d_m_listLoose_45 : decode M_m_listLoose.2.1 45 = .ok (.iaload, 1) := by decide +kernel
theorem d_m_listLoose_46 : decode M_m_listLoose.2.1 46 = .ok (.invokevirtual 142, 3) := by decide +kernel
theorem d_m_listLoose_49 : decode M_m_listLoose.2.1 49 = .ok (.iinc 2 1, 3) := by decide +kernel
theorem d_m_listLoose_52 : decode M_m_listLoose.2.1 52 = .ok (.goto (-42), 3) := by decide +kernel
theorem d_m_listLoose_55 : decode M_m_listLoose.2.1 55 = .ok (.return_, 1) := by decide +kernel
theorem d_m_clustered_0 : decode M_m_clustered.2.1 0 = .ok (.iconst 0, 1) := by decide +kernel
theorem d_m_clustered_1 : decode M_m_clustered.2.1 1 = .ok (.istore_n 3, 1) := by decide +kernel
theorem d_m_clustered_2 : decode M_m_clustered.2.1 2 = .ok (.bipush 32, 2) := by decide +kernel
theorem d_m_clustered_4 : decode M_m_clustered.2.1 4 = .ok (.iload_n 1, 1) := by decide +kernel
theorem d_m_clustered_5 : decode M_m_clustered.2.1 5 = .ok (.imul, 1) := by decide +kernel
theorem d_m_clustered_6 : decode M_m_clustered.2.1 6 = .ok (.istore 4, 2) := by decide +kernel
theorem d_m_clustered_8 : decode M_m_clustered.2.1 8 = .ok (.iload 4, 2) := by decide +kernel
theorem d_m_clustered_10 : decode M_m_clustered.2.1 10 = .ok (.bipush 32, 2) := by decide +kernel
theorem d_m_clustered_12 : decode M_m_clustered.2.1 12 = .ok (.iload_n 1, 1) := by decide +kernel
theorem d_m_clustered_13 : decode M_m_clustered.2.1 13 = .ok (.imul, 1) := by decide +kernel
theorem d_m_clustered_14 : decode M_m_clustered.2.1 14 = .ok (.aload_n 0, 1) := by decide +kernel
theorem d_m_clustered_15 : decode M_m_clustered.2.1 15 = .ok (.getfield 20, 3) := by decide +kernel
theorem d_m_clustered_18 : decode M_m_clustered.2.1 18 = .ok (.iload_n 1, 1) := by decide +kernel
theorem d_m_clustered_19 : decode M_m_clustered.2.1 19 = .ok (.iaload, 1) := by decide +kernel
theorem d_m_clustered_20 : decode M_m_clustered.2.1 20 = .ok (.iadd, 1) := by decide +kernel
theorem d_m_clustered_21 : decode M_m_clustered.2.1 21 = .ok (.if_icmp .ge 41, 3) := by decide +kernel
theorem d_m_clustered_24 : decode M_m_clustered.2.1 24 = .ok (.iload_n 3, 1) := by decide +kernel
theorem d_m_clustered_25 : decode M_m_clustered.2.1 25 = .ok (.ifCond .ne 37, 3) := by decide +kernel
theorem d_m_clustered_28 : decode M_m_clustered.2.1 28 = .ok (.aload_n 0, 1) := by decide +kernel
theorem d_m_clustered_29 : decode M_m_clustered.2.1 29 = .ok (.iload 4, 2) := by decide +kernel
theorem d_m_clustered_31 : decode M_m_clustered.2.1 31 = .ok (.invokevirtual 101, 3) := by decide +kernel
theorem d_m_clustered_34 : decode M_m_clustered.2.1 34 = .ok (.iconst 3, 1) := by decide +kernel
theorem d_m_clustered_35 : decode M_m_clustered.2.1 35 = .ok (.if_icmp .ne 19, 3) := by decide +kernel
theorem d_m_clustered_38 : decode M_m_clustered.2.1 38 = .ok (.aload_n 0, 1) := by decide +kernel
theorem d_m_clustered_39 : decode M_m_clustered.2.1 39 = .ok (.iload 4, 2) := by decide +kernel
theorem d_m_clustered_41 : decode M_m_clustered.2.1 41 = .ok (.bipush 77, 2) := by decide +kernel
theorem d_m_clustered_43 : decode M_m_clustered.2.1 43 = .ok (.iload_n 2, 1) := by decide +kernel
theorem d_m_clustered_44 : decode M_m_clustered.2.1 44 = .ok (.invokevirtual 108, 3) := by decide +kernel
theorem d_m_clustered_47 : decode M_m_clustered.2.1 47 = .ok (.ifCond .eq 7, 3) := by decide +kernel
theorem d_m_clustered_50 : decode M_m_clustered.2.1 50 = .ok (.iconst 1, 1) := by decide +kernel
theorem d_m_clustered_51 : decode M_m_clustered.2.1 51 = .ok (.goto 4, 3) := by decide +kernel
theorem d_m_clustered_54 : decode M_m_clustered.2.1 54 = .ok (.iconst 0, 1) := by decide +kernel
theorem d_m_clustered_55 : decode M_m_clustered.2.1 55 = .ok (.istore_n 3, 1) := by decide +kernel
theorem d_m_clustered_56 : decode M_m_clustered.2.1 56 = .ok (.iinc 4 1, 3) := by decide +kernel
theorem d_m_clustered_59 : decode M_m_clustered.2.1 59 = .ok (.goto (-51), 3) := by decide +kernel
theorem d_m_clustered_62 : decode M_m_clustered.2.1 62 = .ok (.iload_n 3, 1) := by decide +kernel
theorem d_m_clustered_63 : decode M_m_clustered.2.1 63 = .ok (.ireturn, 1) := by decide +kernel
theorem d_m_sort_0 : decode M_m_sort.2.1 0 = .ok (.iconst 0, 1) := by decide +kernel
theorem d_m_sort_1 : decode M_m_sort.2.1 1 = .ok (.istore_n 2, 1) := by decide +kernel
theorem d_m_sort_2 : decode M_m_sort.2.1 2 = .ok (.iconst (-1), 1) := by decide +kernel
theorem d_m_sort_3 : decode M_m_sort.2.1 3 = .ok (.istore_n 3, 1) := by decide +kernel
theorem d_m_sort_4 : decode M_m_sort.2.1 4 = .ok (.iconst 0, 1) := by decide +kernel
theorem d_m_sort_5 : decode M_m_sort.2.1 5 = .ok (.istore 4, 2) := by decide +kernel
theorem d_m_sort_7 : decode M_m_sort.2.1 7 = .ok (.iconst 0, 1) := by decide +kernel
theorem d_m_sort_8 : decode M_m_sort.2.1 8 = .ok (.istore 5, 2) := by decide +kernel
theorem d_m_sort_10 : decode M_m_sort.2.1 10 = .ok (.iconst 0, 1) := by decide +kernel
theorem d_m_sort_11 : decode M_m_sort.2.1 11 = .ok (.istore 6, 2) := by decide +kernel
theorem d_m_sort_13 : decode M_m_sort.2.1 13 = .ok (.iconst 0, 1) := by decide +kernel
theorem d_m_sort_14 : decode M_m_sort.2.1 14 = .ok (.istore 7, 2) := by decide +kernel
theorem d_m_sort_16 : decode M_m_sort.2.1 16 = .ok (.iconst 0, 1) := by decide +kernel
theorem d_m_sort_17 : decode M_m_sort.2.1 17 = .ok (.istore 8, 2) := by decide +kernel
theorem d_m_sort_19 : decode M_m_sort.2.1 19 = .ok (.iconst 0, 1) := by decide +kernel
theorem d_m_sort_20 : decode M_m_sort.2.1 20 = .ok (.istore 9, 2) := by decide +kernel
theorem d_m_sort_22 : decode M_m_sort.2.1 22 = .ok (.iconst 0, 1) := by decide +kernel
theorem d_m_sort_23 : decode M_m_sort.2.1 23 = .ok (.istore 10, 2) := by decide +kernel
theorem d_m_sort_25 : decode M_m_sort.2.1 25 = .ok (.iconst 0, 1) := by decide +kernel
theorem d_m_sort_26 : decode M_m_sort.2.1 26 = .ok (.istore 11, 2) := by decide +kernel
theorem d_m_sort_28 : decode M_m_sort.2.1 28 = .ok (.iconst 0, 1) := by decide +kernel
theorem d_m_sort_29 : decode M_m_sort.2.1 29 = .ok (.istore 12, 2) := by decide +kernel
theorem d_m_sort_31 : decode M_m_sort.2.1 31 = .ok (.iload 12, 2) := by decide +kernel
theorem d_m_sort_33 : decode M_m_sort.2.1 33 = .ok (.aload_n 0, 1) := by decide +kernel
theorem d_m_sort_34 : decode M_m_sort.2.1 34 = .ok (.getfield 13, 3) := by decide +kernel
theorem d_m_sort_37 : decode M_m_sort.2.1 37 = .ok (.iload_n 1, 1) := by decide +kernel
theorem d_m_sort_38 : decode M_m_sort.2.1 38 = .ok (.iaload, 1) := by decide +kernel
theorem d_m_sort_39 : decode M_m_sort.2.1 39 = .ok (.if_icmp .ge 332, 3) := by decide +kernel
theorem d_m_sort_42 : decode M_m_sort.2.1 42 = .ok (.aload_n 0, 1) := by decide +kernel
theorem d_m_sort_43 : decode M_m_sort.2.1 43 = .ok (.iload_n 1, 1) := by decide +kernel
theorem d_m_sort_44 : decode M_m_sort.2.1 44 = .ok (.iload 12, 2) := by decide +kernel
theorem d_m_sort_46 : decode M_m_sort.2.1 46 = .ok (.invokevirtual 90, 3) := by decide +kernel
theorem d_m_sort_49 : decode M_m_sort.2.1 49 = .ok (.ifCond .eq 18, 3) := by decide +kernel
theorem d_m_sort_52 : decode M_m_sort.2.1 52 = .ok (.aload_n 0, 1) := by decide +kernel
theorem d_m_sort_53 : decode M_m_sort.2.1 53 = .ok (.getfield 47, 3) := by decide +kernel
theorem d_m_sort_56 : decode M_m_sort.2.1 56 = .ok (.iload_n 2, 1) := by decide +kernel
theorem d_m_sort_57 : decode M_m_sort.2.1 57 = .ok (.if_icmp .lt 10, 3) := by decide +kernel
theorem d_m_sort_60 : decode M_m_sort.2.1 60 = .ok (.aload_n 0, 1) := by decide +kernel
theorem d_m_sort_61 : decode M_m_sort.2.1 61 = .ok (.getfield 47, 3) := by decide +kernel
theorem d_m_sort_64 : decode M_m_sort.2.1 64 = .ok (.ifCond .ne 5, 3) := by decide +kernel
theorem d_m_sort_67 : decode M_m_sort.2.1 67 = .ok (.iconst 0, 1) := by decide +kernel
theorem d_m_sort_68 : decode M_m_sort.2.1 68 = .ok (.ireturn, 1) := by decide +kernel
theorem d_m_sort_69 : decode M_m_sort.2.1 69 = .ok (.aload_n 0, 1) := by decide +kernel
theorem d_m_sort_70 : decode M_m_sort.2.1 70 = .ok (.getfield 47, 3) := by decide +kernel
theorem d_m_sort_73 : decode M_m_sort.2.1 73 = .ok (.bipush 70, 2) := by decide +kernel
theorem d_m_sort_75 : decode M_m_sort.2.1 75 = .ok (.if_icmp .eq 12, 3) := by decide +kernel
theorem d_m_sort_78 : decode M_m_sort.2.1 78 = .ok (.aload_n 0, 1) := by decide +kernel
theorem d_m_sort_79 : decode M_m_sort.2.1 79 = .ok (.getfield 47, 3) := by decide +kernel
theorem d_m_sort_82 : decode M_m_sort.2.1 82 = .ok (.bipush 84, 2) := by decide +kernel
theorem d_m_sort_84 : decode M_m_sort.2.1 84 = .ok (.if_icmp .ne 10, 3) := by decide +kernel
theorem d_m_sort_87 : decode M_m_sort.2.1 87 = .ok (.aload_n 0, 1) := by decide +kernel
theorem d_m_sort_88 : decode M_m_sort.2.1 88 = .ok (.getfield 74, 3) := by decide +kernel
theorem d_m_sort_91 : decode M_m_sort.2.1 91 = .ok (.goto 20, 3) := by decide +kernel
theorem d_m_sort_94 : decode M_m_sort.2.1 94 = .ok (.aload_n 0, 1) := by decide +kernel
theorem d_m_sort_95 : decode M_m_sort.2.1 95 = .ok (.getfield 47, 3) := by decide +kernel
theorem d_m_sort_98 : decode M_m_sort.2.1 98 = .ok (.bipush 77, 2) := by decide +kernel
theorem d_m_sort_100 : decode M_m_sort.2.1 100 = .ok (.if_icmp .ne 10, 3) := by decide +kernel
theorem d_m_sort_103 : decode M_m_sort.2.1 103 = .ok (.aload_n 0, 1) := by decide +kernel
theorem d_m_sort_104 : decode M_m_sort.2.1 104 = .ok (.getfield 58, 3) := by decide +kernel
theorem d_m_sort_107 : decode M_m_sort.2.1 107 = .ok (.goto 4, 3) := by decide +kernel
theorem d_m_sort_110 : decode M_m_sort.2.1 110 = .ok (.iconst 0, 1) := by decide +kernel
theorem d_m_sort_111 : decode M_m_sort.2.1 111 = .ok (.istore 13, 2) := by decide +kernel
theorem d_m_sort_113 : decode M_m_sort.2.1 113 = .ok (.aload_n 0, 1) := by decide +kernel
theorem d_m_sort_114 : decode M_m_sort.2.1 114 = .ok (.getfield 47, 3) := by decide +kernel
theorem d_m_sort_117 : decode M_m_sort.2.1 117 = .ok (.bipush 70, 2) := by decide +kernel
theorem d_m_sort_119 : decode M_m_sort.2.1 119 = .ok (.if_icmp .eq 21, 3) := by decide +kernel
theorem d_m_sort_122 : decode M_m_sort.2.1 122 = .ok (.aload_n 0, 1) := by decide +kernel
theorem d_m_sort_123 : decode M_m_sort.2.1 123 = .ok (.getfield 47, 3) := by decide +kernel
theorem d_m_sort_126 : decode M_m_sort.2.1 126 = .ok (.bipush 84, 2) := by decide +kernel
theorem d_m_sort_128 : decode M_m_sort.2.1 128 = .ok (.if_icmp .eq 12, 3) := by decide +kernel
theorem d_m_sort_131 : decode M_m_sort.2.1 131 = .ok (.aload_n 0, 1) := by decide +kernel
theorem d_m_sort_132 : decode M_m_sort.2.1 132 = .ok (.getfield 47, 3) := by decide +kernel
theorem d_m_sort_135 : decode M_m_sort.2.1 135 = .ok (.bipush 77, 2) := by decide +kernel
theorem d_m_sort_137 : decode M_m_sort.2.1 137 = .ok (.if_icmp .ne 7, 3) := by decide +kernel
theorem d_m_sort_140 : decode M_m_sort.2.1 140 = .ok (.iconst 1, 1) := by decide +kernel
theorem d_m_sort_141 : decode M_m_sort.2.1 141 = .ok (.goto 4, 3) := by decide +kernel
theorem d_m_sort_144 : decode M_m_sort.2.1 144 = .ok (.iconst 0, 1) := by decide +kernel
theorem d_m_sort_145 : decode M_m_sort.2.1 145 = .ok (.istore 14, 2) := by decide +kernel
theorem d_m_sort_147 : decode M_m_sort.2.1 147 = .ok (.aload_n 0, 1) := by decide +kernel
theorem d_m_sort_148 : decode M_m_sort.2.1 148 = .ok (.getfield 47, 3) := by decide +kernel
theorem d_m_sort_151 : decode M_m_sort.2.1 151 = .ok (.iload_n 2, 1) := by decide +kernel
theorem d_m_sort_152 : decode M_m_sort.2.1 152 = .ok (.if_icmp .ne 16, 3) := by decide +kernel
theorem d_m_sort_155 : decode M_m_sort.2.1 155 = .ok (.iload 14, 2) := by decide +kernel
theorem d_m_sort_157 : decode M_m_sort.2.1 157 = .ok (.ifCond .eq 9, 3) := by decide +kernel
theorem d_m_sort_160 : decode M_m_sort.2.1 160 = .ok (.iload 13, 2) := by decide +kernel
theorem d_m_sort_162 : decode M_m_sort.2.1 162 = .ok (.iload_n 3, 1) := by decide +kernel
theorem d_m_sort_163 : decode M_m_sort.2.1 163 = .ok (.if_icmp .gt 5, 3) := by decide +kernel
theorem d_m_sort_166 : decode M_m_sort.2.1 166 = .ok (.iconst 0, 1) := by decide +kernel
theorem d_m_sort_167 : decode M_m_sort.2.1 167 = .ok (.ireturn, 1) := by decide +kernel
theorem d_m_sort_168 : decode M_m_sort.2.1 168 = .ok (.aload_n 0, 1) := by decide +kernel
theorem d_m_sort_169 : decode M_m_sort.2.1 169 = .ok (.getfield 47, 3) := by decide +kernel
theorem d_m_sort_172 : decode M_m_sort.2.1 172 = .ok (.bipush 90, 2) := by decide +kernel
theorem d_m_sort_174 : decode M_m_sort.2.1 174 = .ok (.if_icmp .ne 21, 3) := by decide +kernel
theorem d_m_sort_177 : decode M_m_sort.2.1 177 = .ok (.aload_n 0, 1) := by decide +kernel
theorem d_m_sort_178 : decode M_m_sort.2.1 178 = .ok (.getfield 58, 3) := by decide +kernel
theorem d_m_sort_181 : decode M_m_sort.2.1 181 = .ok (.aload_n 0, 1) := by decide +kernel
theorem d_m_sort_182 : decode M_m_sort.2.1 182 = .ok (.bipush 7, 2) := by decide +kernel
theorem d_m_sort_184 : decode M_m_sort.2.1 184 = .ok (.iload_n 1, 1) := by decide +kernel
theorem d_m_sort_185 : decode M_m_sort.2.1 185 = .ok (.iload 12, 2) := by decide +kernel
theorem d_m_sort_187 : decode M_m_sort.2.1 187 = .ok (.invokevirtual 94, 3) := by decide +kernel
theorem d_m_sort_190 : decode M_m_sort.2.1 190 = .ok (.if_icmp .eq 5, 3) := by decide +kernel
theorem d_m_sort_193 : decode M_m_sort.2.1 193 = .ok (.iconst 0, 1) := by decide +kernel
theorem d_m_sort_194 : decode M_m_sort.2.1 194 = .ok (.ireturn, 1) := by decide +kernel
theorem d_m_sort_195 : decode M_m_sort.2.1 195 = .ok (.aload_n 0, 1) := by decide +kernel
theorem d_m_sort_196 : decode M_m_sort.2.1 196 = .ok (.getfield 47, 3) := by decide +kernel
theorem d_m_sort_199 : decode M_m_sort.2.1 199 = .ok (.istore_n 2, 1) := by decide +kernel
theorem d_m_sort_200 : decode M_m_sort.2.1 200 = .ok (.iload 13, 2) := by decide +kernel
theorem d_m_sort_202 : decode M_m_sort.2.1 202 = .ok (.istore_n 3, 1) := by decide +kernel
theorem d_m_sort_203 : decode M_m_sort.2.1 203 = .ok (.iload 4, 2) := by decide +kernel
theorem d_m_sort_205 : decode M_m_sort.2.1 205 = .ok (.aload_n 0, 1) := by decide +kernel
theorem d_m_sort_206 : decode M_m_sort.2.1 206 = .ok (.getfield 47, 3) := by decide +kernel
theorem d_m_sort_209 : decode M_m_sort.2.1 209 = .ok (.bipush 68, 2) := by decide +kernel
theorem d_m_sort_211 : decode M_m_sort.2.1 211 = .ok (.if_icmp .ne 7, 3) := by decide +kernel
theorem d_m_sort_214 : decode M_m_sort.2.1 214 = .ok (.iconst 1, 1) := by decide +kernel
theorem d_m_sort_215 : decode M_m_sort.2.1 215 = .ok (.goto 4, 3) := by decide +kernel
theorem d_m_sort_218 : decode M_m_sort.2.1 218 = .ok (.iconst 0, 1) := by decide +kernel
theorem d_m_sort_219 : decode M_m_sort.2.1 219 = .ok (.iadd, 1) := by decide +kernel
theorem d_m_sort_220 : decode M_m_sort.2.1 220 = .ok (.istore 4, 2) := by decide +kernel
theorem d_m_sort_222 : decode M_m_sort.2.1 222 = .ok (.iload 5, 2) := by decide +kernel
theorem d_m_sort_224 : decode M_m_sort.2.1 224 = .ok (.aload_n 0, 1) := by decide +kernel
theorem d_m_sort_225 : decode M_m_sort.2.1 225 = .ok (.getfield 47, 3) := by decide +kernel
theorem d_m_sort_228 : decode M_m_sort.2.1 228 = .ok (.bipush 70, 2) := by decide +kernel
theorem d_m_sort_230 : decode M_m_sort.2.1 230 = .ok (.if_icmp .ne 7, 3) := by decide +kernel
theorem d_m_sort_233 : decode M_m_sort.2.1 233 = .ok (.iconst 1, 1) := by decide +kernel
theorem d_m_sort_234 : decode M_m_sort.2.1 234 = .ok (.goto 4, 3) := by decide +kernel
theorem d_m_sort_237 : decode M_m_sort.2.1 237 = .ok (.iconst 0, 1) := by decide +kernel
theorem d_m_sort_238 : decode M_m_sort.2.1 238 = .ok (.iadd, 1) := by decide +kernel
theorem d_m_sort_239 : decode M_m_sort.2.1 239 = .ok (.istore 5, 2) := by decide +kernel
theorem d_m_sort_241 : decode M_m_sort.2.1 241 = .ok (.iload 6, 2) := by decide +kernel
theorem d_m_sort_243 : decode M_m_sort.2.1 243 = .ok (.aload_n 0, 1) := by decide +kernel
theorem d_m_sort_244 : decode M_m_sort.2.1 244 = .ok (.getfield 47, 3) := by decide +kernel
theorem d_m_sort_247 : decode M_m_sort.2.1 247 = .ok (.bipush 77, 2) := by decide +kernel
theorem d_m_sort_249 : decode M_m_sort.2.1 249 = .ok (.if_icmp .ne 7, 3) := by decide +kernel
theorem d_m_sort_252 : decode M_m_sort.2.1 252 = .ok (.iconst 1, 1) := by decide +kernel
theorem d_m_sort_253 : decode M_m_sort.2.1 253 = .ok (.goto 4, 3) := by decide +kernel
theorem d_m_sort_256 : decode M_m_sort.2.1 256 = .ok (.iconst 0, 1) := by decide +kernel
theorem d_m_sort_257 : decode M_m_sort.2.1 257 = .ok (.iadd, 1) := by decide +kernel
theorem d_m_sort_258 : decode M_m_sort.2.1 258 = .ok (.istore 6, 2) := by decide +kernel
theorem d_m_sort_260 : decode M_m_sort.2.1 260 = .ok (.iload 7, 2) := by decide +kernel
theorem d_m_sort_262 : decode M_m_sort.2.1 262 = .ok (.aload_n 0, 1) := by decide +kernel
theorem d_m_sort_263 : decode M_m_sort.2.1 263 = .ok (.getfield 47, 3) := by decide +kernel
theorem d_m_sort_266 : decode M_m_sort.2.1 266 = .ok (.bipush 80, 2) := by decide +kernel
theorem d_m_sort_268 : decode M_m_sort.2.1 268 = .ok (.if_icmp .ne 7, 3) := by decide +kernel
theorem d_m_sort_271 : decode M_m_sort.2.1 271 = .ok (.iconst 1, 1) := by decide +kernel
theorem d_m_sort_272 : decode M_m_sort.2.1 272 = .ok (.goto 4, 3) := by decide +kernel
theorem d_m_sort_275 : decode M_m_sort.2.1 275 = .ok (.iconst 0, 1) := by decide +kernel
theorem d_m_sort_276 : decode M_m_sort.2.1 276 = .ok (.iadd, 1) := by decide +kernel
theorem d_m_sort_277 : decode M_m_sort.2.1 277 = .ok (.istore 7, 2) := by decide +kernel
theorem d_m_sort_279 : decode M_m_sort.2.1 279 = .ok (.iload 8, 2) := by decide +kernel
theorem d_m_sort_281 : decode M_m_sort.2.1 281 = .ok (.aload_n 0, 1) := by decide +kernel
theorem d_m_sort_282 : decode M_m_sort.2.1 282 = .ok (.getfield 47, 3) := by decide +kernel
theorem d_m_sort_285 : decode M_m_sort.2.1 285 = .ok (.bipush 82, 2) := by decide +kernel
theorem d_m_sort_287 : decode M_m_sort.2.1 287 = .ok (.if_icmp .ne 7, 3) := by decide +kernel
theorem d_m_sort_290 : decode M_m_sort.2.1 290 = .ok (.iconst 1, 1) := by decide +kernel
theorem d_m_sort_291 : decode M_m_sort.2.1 291 = .ok (.goto 4, 3) := by decide +kernel
theorem d_m_sort_294 : decode M_m_sort.2.1 294 = .ok (.iconst 0, 1) := by decide +kernel
theorem d_m_sort_295 : decode M_m_sort.2.1 295 = .ok (.iadd, 1) := by decide +kernel
theorem d_m_sort_296 : decode M_m_sort.2.1 296 = .ok (.istore 8, 2) := by decide +kernel
theorem d_m_sort_298 : decode M_m_sort.2.1 298 = .ok (.iload 10, 2) := by decide +kernel
theorem d_m_sort_300 : decode M_m_sort.2.1 300 = .ok (.aload_n 0, 1) := by decide +kernel
theorem d_m_sort_301 : decode M_m_sort.2.1 301 = .ok (.getfield 47, 3) := by decide +kernel
theorem d_m_sort_304 : decode M_m_sort.2.1 304 = .ok (.bipush 84, 2) := by decide +kernel
theorem d_m_sort_306 : decode M_m_sort.2.1 306 = .ok (.if_icmp .ne 7, 3) := by decide +kernel
theorem d_m_sort_309 : decode M_m_sort.2.1 309 = .ok (.iconst 1, 1) := by decide +kernel
theorem d_m_sort_310 : decode M_m_sort.2.1 310 = .ok (.goto 4, 3) := by decide +kernel
theorem d_m_sort_313 : decode M_m_sort.2.1 313 = .ok (.iconst 0, 1) := by decide +kernel
theorem d_m_sort_314 : decode M_m_sort.2.1 314 = .ok (.iadd, 1) := by decide +kernel
theorem d_m_sort_315 : decode M_m_sort.2.1 315 = .ok (.istore 10, 2) := by decide +kernel
theorem d_m_sort_317 : decode M_m_sort.2.1 317 = .ok (.iload 9, 2) := by decide +kernel
theorem d_m_sort_319 : decode M_m_sort.2.1 319 = .ok (.aload_n 0, 1) := by decide +kernel
theorem d_m_sort_320 : decode M_m_sort.2.1 320 = .ok (.getfield 47, 3) := by decide +kernel
theorem d_m_sort_323 : decode M_m_sort.2.1 323 = .ok (.bipush 84, 2) := by decide +kernel
theorem d_m_sort_325 : decode M_m_sort.2.1 325 = .ok (.if_icmp .ne 14, 3) := by decide +kernel
theorem d_m_sort_328 : decode M_m_sort.2.1 328 = .ok (.aload_n 0, 1) := by decide +kernel
theorem d_m_sort_329 : decode M_m_sort.2.1 329 = .ok (.getfield 58, 3) := by decide +kernel
theorem d_m_sort_332 : decode M_m_sort.2.1 332 = .ok (.ifCond .ge 7, 3) := by decide +kernel
theorem d_m_sort_335 : decode M_m_sort.2.1 335 = .ok (.iconst 1, 1) := by decide +kernel
theorem d_m_sort_336 : decode M_m_sort.2.1 336 = .ok (.goto 4, 3) := by decide +kernel
theorem d_m_sort_339 : decode M_m_sort.2.1 339 = .ok (.iconst 0, 1) := by decide +kernel
theorem d_m_sort_340 : decode M_m_sort.2.1 340 = .ok (.iadd, 1) := by decide +kernel
theorem d_m_sort_341 : decode M_m_sort.2.1 341 = .ok (.istore 9, 2) := by decide +kernel
theorem d_m_sort_343 : decode M_m_sort.2.1 343 = .ok (.iload 11, 2) := by decide +kernel
theorem d_m_sort_345 : decode M_m_sort.2.1 345 = .ok (.aload_n 0, 1) := by decide +kernel
theorem d_m_sort_346 : decode M_m_sort.2.1 346 = .ok (.getfield 47, 3) := by decide +kernel
theorem d_m_sort_349 : decode M_m_sort.2.1 349 = .ok (.bipush 90, 2) := by decide +kernel
theorem d_m_sort_351 : decode M_m_sort.2.1 351 = .ok (.if_icmp .ne 7, 3) := by decide +kernel
theorem d_m_sort_354 : decode M_m_sort.2.1 354 = .ok (.iconst 1, 1) := by decide +kernel
theorem d_m_sort_355 : decode M_m_sort.2.1 355 = .ok (.goto 4, 3) := by decide +kernel
theorem d_m_sort_358 : decode M_m_sort.2.1 358 = .ok (.iconst 0, 1) := by decide +kernel
theorem d_m_sort_359 : decode M_m_sort.2.1 359 = .ok (.iadd, 1) := by decide +kernel
theorem d_m_sort_360 : decode M_m_sort.2.1 360 = .ok (.istore 11, 2) := by decide +kernel
theorem d_m_sort_362 : decode M_m_sort.2.1 362 = .ok (.aload_n 0, 1) := by decide +kernel
theorem d_m_sort_363 : decode M_m_sort.2.1 363 = .ok (.getfield 51, 3) := by decide +kernel
theorem d_m_sort_366 : decode M_m_sort.2.1 366 = .ok (.istore 12, 2) := by decide +kernel
theorem d_m_sort_368 : decode M_m_sort.2.1 368 = .ok (.goto (-337), 3) := by decide +kernel
theorem d_m_sort_371 : decode M_m_sort.2.1 371 = .ok (.iload 11, 2) := by decide +kernel
theorem d_m_sort_373 : decode M_m_sort.2.1 373 = .ok (.ifCond .ne 5, 3) := by decide +kernel
theorem d_m_sort_376 : decode M_m_sort.2.1 376 = .ok (.iconst 0, 1) := by decide +kernel
theorem d_m_sort_377 : decode M_m_sort.2.1 377 = .ok (.ireturn, 1) := by decide +kernel
theorem d_m_sort_378 : decode M_m_sort.2.1 378 = .ok (.iload 4, 2) := by decide +kernel
theorem d_m_sort_380 : decode M_m_sort.2.1 380 = .ok (.iconst 1, 1) := by decide +kernel
theorem d_m_sort_381 : decode M_m_sort.2.1 381 = .ok (.if_icmp .ne 23, 3) := by decide +kernel
theorem d_m_sort_384 : decode M_m_sort.2.1 384 = .ok (.iload 8, 2) := by decide +kernel
theorem d_m_sort_386 : decode M_m_sort.2.1 386 = .ok (.iconst 1, 1) := by decide +kernel
theorem d_m_sort_387 : decode M_m_sort.2.1 387 = .ok (.if_icmp .ne 17, 3) := by decide +kernel
theorem d_m_sort_390 : decode M_m_sort.2.1 390 = .ok (.iload 6, 2) := by decide +kernel
theorem d_m_sort_392 : decode M_m_sort.2.1 392 = .ok (.ifCond .ne 12, 3) := by decide +kernel
theorem d_m_sort_395 : decode M_m_sort.2.1 395 = .ok (.iload 9, 2) := by decide +kernel
theorem d_m_sort_397 : decode M_m_sort.2.1 397 = .ok (.iload 10, 2) := by decide +kernel
theorem d_m_sort_399 : decode M_m_sort.2.1 399 = .ok (.if_icmp .ne 5, 3) := by decide +kernel
theorem d_m_sort_402 : decode M_m_sort.2.1 402 = .ok (.iconst 1, 1) := by decide +kernel
theorem d_m_sort_403 : decode M_m_sort.2.1 403 = .ok (.ireturn, 1) := by decide +kernel
theorem d_m_sort_404 : decode M_m_sort.2.1 404 = .ok (.iload 4, 2) := by decide +kernel
theorem d_m_sort_406 : decode M_m_sort.2.1 406 = .ok (.iconst 1, 1) := by decide +kernel
theorem d_m_sort_407 : decode M_m_sort.2.1 407 = .ok (.if_icmp .ne 29, 3) := by decide +kernel
theorem d_m_sort_410 : decode M_m_sort.2.1 410 = .ok (.iload 10, 2) := by decide +kernel
theorem d_m_sort_412 : decode M_m_sort.2.1 412 = .ok (.ifCond .le 24, 3) := by decide +kernel
theorem d_m_sort_415 : decode M_m_sort.2.1 415 = .ok (.iload 9, 2) := by decide +kernel
theorem d_m_sort_417 : decode M_m_sort.2.1 417 = .ok (.ifCond .ne 19, 3) := by decide +kernel
theorem d_m_sort_420 : decode M_m_sort.2.1 420 = .ok (.iload 5, 2) := by decide +kernel
theorem d_m_sort_422 : decode M_m_sort.2.1 422 = .ok (.iload 6, 2) := by decide +kernel
theorem d_m_sort_424 : decode M_m_sort.2.1 424 = .ok (.iadd, 1) := by decide +kernel
theorem d_m_sort_425 : decode M_m_sort.2.1 425 = .ok (.iload 7, 2) := by decide +kernel
theorem d_m_sort_427 : decode M_m_sort.2.1 427 = .ok (.iadd, 1) := by decide +kernel
theorem d_m_sort_428 : decode M_m_sort.2.1 428 = .ok (.iload 8, 2) := by decide +kernel
theorem d_m_sort_430 : decode M_m_sort.2.1 430 = .ok (.iadd, 1) := by decide +kernel
theorem d_m_sort_431 : decode M_m_sort.2.1 431 = .ok (.ifCond .ne 5, 3) := by decide +kernel
theorem d_m_sort_434 : decode M_m_sort.2.1 434 = .ok (.iconst 2, 1) := by decide +kernel
theorem d_m_sort_435 : decode M_m_sort.2.1 435 = .ok (.ireturn, 1) := by decide +kernel
theorem d_m_sort_436 : decode M_m_sort.2.1 436 = .ok (.iload 6, 2) := by decide +kernel
theorem d_m_sort_438 : decode M_m_sort.2.1 438 = .ok (.ifCond .le 24, 3) := by decide +kernel
theorem d_m_sort_441 : decode M_m_sort.2.1 441 = .ok (.iload 4, 2) := by decide +kernel
theorem d_m_sort_443 : decode M_m_sort.2.1 443 = .ok (.iload 5, 2) := by decide +kernel
theorem d_m_sort_445 : decode M_m_sort.2.1 445 = .ok (.iadd, 1) := by decide +kernel
theorem d_m_sort_446 : decode M_m_sort.2.1 446 = .ok (.iload 7, 2) := by decide +kernel
theorem d_m_sort_448 : decode M_m_sort.2.1 448 = .ok (.iadd, 1) := by decide +kernel
theorem d_m_sort_449 : decode M_m_sort.2.1 449 = .ok (.iload 8, 2) := by decide +kernel
theorem d_m_sort_451 : decode M_m_sort.2.1 451 = .ok (.iadd, 1) := by decide +kernel
theorem d_m_sort_452 : decode M_m_sort.2.1 452 = .ok (.iload 10, 2) := by decide +kernel
theorem d_m_sort_454 : decode M_m_sort.2.1 454 = .ok (.iadd, 1) := by decide +kernel
theorem d_m_sort_455 : decode M_m_sort.2.1 455 = .ok (.ifCond .ne 7, 3) := by decide +kernel
theorem d_m_sort_458 : decode M_m_sort.2.1 458 = .ok (.iconst 3, 1) := by decide +kernel
theorem d_m_sort_459 : decode M_m_sort.2.1 459 = .ok (.goto 4, 3) := by decide +kernel
theorem d_m_sort_462 : decode M_m_sort.2.1 462 = .ok (.iconst 0, 1) := by decide +kernel
theorem d_m_sort_463 : decode M_m_sort.2.1 463 = .ok (.ireturn, 1) := by decide +kernel

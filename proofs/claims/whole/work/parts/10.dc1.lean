/-! Decode rows. Own work. -/
theorem d_C_readTime_0 : decode M_C_readTime.2.1 0 = .ok (.iload_n 2, 1) := by decide +kernel
theorem d_C_readTime_1 : decode M_C_readTime.2.1 1 = .ok (.iload_n 1, 1) := by decide +kernel
theorem d_C_readTime_2 : decode M_C_readTime.2.1 2 = .ok (.isub, 1) := by decide +kernel
theorem d_C_readTime_3 : decode M_C_readTime.2.1 3 = .ok (.istore_n 3, 1) := by decide +kernel
theorem d_C_readTime_4 : decode M_C_readTime.2.1 4 = .ok (.iload_n 3, 1) := by decide +kernel
theorem d_C_readTime_5 : decode M_C_readTime.2.1 5 = .ok (.iconst 1, 1) := by decide +kernel
theorem d_C_readTime_6 : decode M_C_readTime.2.1 6 = .ok (.if_icmp .lt 21, 3) := by decide +kernel
theorem d_C_readTime_9 : decode M_C_readTime.2.1 9 = .ok (.iload_n 3, 1) := by decide +kernel
theorem d_C_readTime_10 : decode M_C_readTime.2.1 10 = .ok (.iconst 4, 1) := by decide +kernel
theorem d_C_readTime_11 : decode M_C_readTime.2.1 11 = .ok (.if_icmp .gt 16, 3) := by decide +kernel
theorem d_C_readTime_14 : decode M_C_readTime.2.1 14 = .ok (.iload_n 3, 1) := by decide +kernel
theorem d_C_readTime_15 : decode M_C_readTime.2.1 15 = .ok (.iconst 1, 1) := by decide +kernel
theorem d_C_readTime_16 : decode M_C_readTime.2.1 16 = .ok (.if_icmp .le 13, 3) := by decide +kernel
theorem d_C_readTime_19 : decode M_C_readTime.2.1 19 = .ok (.aload_n 0, 1) := by decide +kernel
theorem d_C_readTime_20 : decode M_C_readTime.2.1 20 = .ok (.iload_n 1, 1) := by decide +kernel
theorem d_C_readTime_21 : decode M_C_readTime.2.1 21 = .ok (.baload, 1) := by decide +kernel
theorem d_C_readTime_22 : decode M_C_readTime.2.1 22 = .ok (.bipush 48, 2) := by decide +kernel
theorem d_C_readTime_24 : decode M_C_readTime.2.1 24 = .ok (.if_icmp .ne 5, 3) := by decide +kernel
theorem d_C_readTime_27 : decode M_C_readTime.2.1 27 = .ok (.aconst_null, 1) := by decide +kernel
theorem d_C_readTime_28 : decode M_C_readTime.2.1 28 = .ok (.areturn, 1) := by decide +kernel
theorem d_C_readTime_29 : decode M_C_readTime.2.1 29 = .ok (.iconst 0, 1) := by decide +kernel
theorem d_C_readTime_30 : decode M_C_readTime.2.1 30 = .ok (.istore 4, 2) := by decide +kernel
theorem d_C_readTime_32 : decode M_C_readTime.2.1 32 = .ok (.iload_n 1, 1) := by decide +kernel
theorem d_C_readTime_33 : decode M_C_readTime.2.1 33 = .ok (.istore 5, 2) := by decide +kernel
theorem d_C_readTime_35 : decode M_C_readTime.2.1 35 = .ok (.iload 5, 2) := by decide +kernel
theorem d_C_readTime_37 : decode M_C_readTime.2.1 37 = .ok (.iload_n 2, 1) := by decide +kernel
theorem d_C_readTime_38 : decode M_C_readTime.2.1 38 = .ok (.if_icmp .ge 39, 3) := by decide +kernel
theorem d_C_readTime_41 : decode M_C_readTime.2.1 41 = .ok (.aload_n 0, 1) := by decide +kernel
theorem d_C_readTime_42 : decode M_C_readTime.2.1 42 = .ok (.iload 5, 2) := by decide +kernel
theorem d_C_readTime_44 : decode M_C_readTime.2.1 44 = .ok (.baload, 1) := by decide +kernel
theorem d_C_readTime_45 : decode M_C_readTime.2.1 45 = .ok (.bipush 48, 2) := by decide +kernel
theorem d_C_readTime_47 : decode M_C_readTime.2.1 47 = .ok (.isub, 1) := by decide +kernel
theorem d_C_readTime_48 : decode M_C_readTime.2.1 48 = .ok (.invokestatic 45, 3) := by decide +kernel
theorem d_C_readTime_51 : decode M_C_readTime.2.1 51 = .ok (.ifCond .ne 5, 3) := by decide +kernel
theorem d_C_readTime_54 : decode M_C_readTime.2.1 54 = .ok (.aconst_null, 1) := by decide +kernel
theorem d_C_readTime_55 : decode M_C_readTime.2.1 55 = .ok (.areturn, 1) := by decide +kernel
theorem d_C_readTime_56 : decode M_C_readTime.2.1 56 = .ok (.bipush 10, 2) := by decide +kernel
theorem d_C_readTime_58 : decode M_C_readTime.2.1 58 = .ok (.iload 4, 2) := by decide +kernel
theorem d_C_readTime_60 : decode M_C_readTime.2.1 60 = .ok (.imul, 1) := by decide +kernel
theorem d_C_readTime_61 : decode M_C_readTime.2.1 61 = .ok (.aload_n 0, 1) := by decide +kernel
theorem d_C_readTime_62 : decode M_C_readTime.2.1 62 = .ok (.iload 5, 2) := by decide +kernel
theorem d_C_readTime_64 : decode M_C_readTime.2.1 64 = .ok (.baload, 1) := by decide +kernel
theorem d_C_readTime_65 : decode M_C_readTime.2.1 65 = .ok (.iadd, 1) := by decide +kernel
theorem d_C_readTime_66 : decode M_C_readTime.2.1 66 = .ok (.bipush 48, 2) := by decide +kernel
theorem d_C_readTime_68 : decode M_C_readTime.2.1 68 = .ok (.isub, 1) := by decide +kernel
theorem d_C_readTime_69 : decode M_C_readTime.2.1 69 = .ok (.istore 4, 2) := by decide +kernel
theorem d_C_readTime_71 : decode M_C_readTime.2.1 71 = .ok (.iinc 5 1, 3) := by decide +kernel
theorem d_C_readTime_74 : decode M_C_readTime.2.1 74 = .ok (.goto (-39), 3) := by decide +kernel
theorem d_C_readTime_77 : decode M_C_readTime.2.1 77 = .ok (.new 10, 3) := by decide +kernel
theorem d_C_readTime_80 : decode M_C_readTime.2.1 80 = .ok (.dup, 1) := by decide +kernel
theorem d_C_readTime_81 : decode M_C_readTime.2.1 81 = .ok (.bipush 68, 2) := by decide +kernel
theorem d_C_readTime_83 : decode M_C_readTime.2.1 83 = .ok (.iconst (-1), 1) := by decide +kernel
theorem d_C_readTime_84 : decode M_C_readTime.2.1 84 = .ok (.iconst 0, 1) := by decide +kernel
theorem d_C_readTime_85 : decode M_C_readTime.2.1 85 = .ok (.iload 4, 2) := by decide +kernel
theorem d_C_readTime_87 : decode M_C_readTime.2.1 87 = .ok (.iconst (-1), 1) := by decide +kernel
theorem d_C_readTime_88 : decode M_C_readTime.2.1 88 = .ok (.invokespecial 49, 3) := by decide +kernel
theorem d_C_readTime_91 : decode M_C_readTime.2.1 91 = .ok (.areturn, 1) := by decide +kernel
theorem d_C_init_0 : decode M_C_init.2.1 0 = .ok (.aload_n 0, 1) := by decide +kernel
theorem d_C_init_1 : decode M_C_init.2.1 1 = .ok (.invokespecial 3, 3) := by decide +kernel
theorem d_C_init_4 : decode M_C_init.2.1 4 = .ok (.aload_n 0, 1) := by decide +kernel
theorem d_C_init_5 : decode M_C_init.2.1 5 = .ok (.iload_n 1, 1) := by decide +kernel
theorem d_C_init_6 : decode M_C_init.2.1 6 = .ok (.putfield 9, 3) := by decide +kernel
theorem d_C_init_9 : decode M_C_init.2.1 9 = .ok (.aload_n 0, 1) := by decide +kernel
theorem d_C_init_10 : decode M_C_init.2.1 10 = .ok (.iload_n 2, 1) := by decide +kernel
theorem d_C_init_11 : decode M_C_init.2.1 11 = .ok (.putfield 15, 3) := by decide +kernel
theorem d_C_init_14 : decode M_C_init.2.1 14 = .ok (.aload_n 0, 1) := by decide +kernel
theorem d_C_init_15 : decode M_C_init.2.1 15 = .ok (.iload_n 3, 1) := by decide +kernel
theorem d_C_init_16 : decode M_C_init.2.1 16 = .ok (.putfield 18, 3) := by decide +kernel
theorem d_C_init_19 : decode M_C_init.2.1 19 = .ok (.aload_n 0, 1) := by decide +kernel
theorem d_C_init_20 : decode M_C_init.2.1 20 = .ok (.iload 4, 2) := by decide +kernel
theorem d_C_init_22 : decode M_C_init.2.1 22 = .ok (.putfield 22, 3) := by decide +kernel
theorem d_C_init_25 : decode M_C_init.2.1 25 = .ok (.aload_n 0, 1) := by decide +kernel
theorem d_C_init_26 : decode M_C_init.2.1 26 = .ok (.iload 5, 2) := by decide +kernel
theorem d_C_init_28 : decode M_C_init.2.1 28 = .ok (.putfield 25, 3) := by decide +kernel
theorem d_C_init_31 : decode M_C_init.2.1 31 = .ok (.return_, 1) := by decide +kernel
theorem d_C_readFile_0 : decode M_C_readFile.2.1 0 = .ok (.iload_n 2, 1) := by decide +kernel
theorem d_C_readFile_1 : decode M_C_readFile.2.1 1 = .ok (.iload_n 1, 1) := by decide +kernel
theorem d_C_readFile_2 : decode M_C_readFile.2.1 2 = .ok (.isub, 1) := by decide +kernel
theorem d_C_readFile_3 : decode M_C_readFile.2.1 3 = .ok (.bipush 8, 2) := by decide +kernel
theorem d_C_readFile_5 : decode M_C_readFile.2.1 5 = .ok (.if_icmp .ne 13, 3) := by decide +kernel
theorem d_C_readFile_8 : decode M_C_readFile.2.1 8 = .ok (.aload_n 0, 1) := by decide +kernel
theorem d_C_readFile_9 : decode M_C_readFile.2.1 9 = .ok (.iload_n 1, 1) := by decide +kernel
theorem d_C_readFile_10 : decode M_C_readFile.2.1 10 = .ok (.iconst 1, 1) := by decide +kernel
theorem d_C_readFile_11 : decode M_C_readFile.2.1 11 = .ok (.iadd, 1) := by decide +kernel
theorem d_C_readFile_12 : decode M_C_readFile.2.1 12 = .ok (.baload, 1) := by decide +kernel
theorem d_C_readFile_13 : decode M_C_readFile.2.1 13 = .ok (.bipush 32, 2) := by decide +kernel
theorem d_C_readFile_15 : decode M_C_readFile.2.1 15 = .ok (.if_icmp .eq 5, 3) := by decide +kernel
theorem d_C_readFile_18 : decode M_C_readFile.2.1 18 = .ok (.aconst_null, 1) := by decide +kernel
theorem d_C_readFile_19 : decode M_C_readFile.2.1 19 = .ok (.areturn, 1) := by decide +kernel
theorem d_C_readFile_20 : decode M_C_readFile.2.1 20 = .ok (.aload_n 0, 1) := by decide +kernel
theorem d_C_readFile_21 : decode M_C_readFile.2.1 21 = .ok (.iload_n 1, 1) := by decide +kernel
theorem d_C_readFile_22 : decode M_C_readFile.2.1 22 = .ok (.baload, 1) := by decide +kernel
theorem d_C_readFile_23 : decode M_C_readFile.2.1 23 = .ok (.bipush 48, 2) := by decide +kernel
theorem d_C_readFile_25 : decode M_C_readFile.2.1 25 = .ok (.isub, 1) := by decide +kernel
theorem d_C_readFile_26 : decode M_C_readFile.2.1 26 = .ok (.istore_n 3, 1) := by decide +kernel
theorem d_C_readFile_27 : decode M_C_readFile.2.1 27 = .ok (.aload_n 0, 1) := by decide +kernel
theorem d_C_readFile_28 : decode M_C_readFile.2.1 28 = .ok (.iload_n 1, 1) := by decide +kernel
theorem d_C_readFile_29 : decode M_C_readFile.2.1 29 = .ok (.iconst 2, 1) := by decide +kernel
theorem d_C_readFile_30 : decode M_C_readFile.2.1 30 = .ok (.iadd, 1) := by decide +kernel
theorem d_C_readFile_31 : decode M_C_readFile.2.1 31 = .ok (.invokestatic 52, 3) := by decide +kernel
theorem d_C_readFile_34 : decode M_C_readFile.2.1 34 = .ok (.istore 4, 2) := by decide +kernel
theorem d_C_readFile_36 : decode M_C_readFile.2.1 36 = .ok (.iload_n 3, 1) := by decide +kernel
theorem d_C_readFile_37 : decode M_C_readFile.2.1 37 = .ok (.invokestatic 45, 3) := by decide +kernel
theorem d_C_readFile_40 : decode M_C_readFile.2.1 40 = .ok (.ifCond .eq 26, 3) := by decide +kernel
theorem d_C_readFile_43 : decode M_C_readFile.2.1 43 = .ok (.iload 4, 2) := by decide +kernel
theorem d_C_readFile_45 : decode M_C_readFile.2.1 45 = .ok (.iconst (-1), 1) := by decide +kernel
theorem d_C_readFile_46 : decode M_C_readFile.2.1 46 = .ok (.if_icmp .eq 20, 3) := by decide +kernel
theorem d_C_readFile_49 : decode M_C_readFile.2.1 49 = .ok (.new 10, 3) := by decide +kernel
theorem d_C_readFile_52 : decode M_C_readFile.2.1 52 = .ok (.dup, 1) := by decide +kernel
theorem d_C_readFile_53 : decode M_C_readFile.2.1 53 = .ok (.bipush 70, 2) := by decide +kernel
theorem d_C_readFile_55 : decode M_C_readFile.2.1 55 = .ok (.iload_n 3, 1) := by decide +kernel
theorem d_C_readFile_56 : decode M_C_readFile.2.1 56 = .ok (.iconst 0, 1) := by decide +kernel
theorem d_C_readFile_57 : decode M_C_readFile.2.1 57 = .ok (.iload 4, 2) := by decide +kernel
theorem d_C_readFile_59 : decode M_C_readFile.2.1 59 = .ok (.iconst (-1), 1) := by decide +kernel
theorem d_C_readFile_60 : decode M_C_readFile.2.1 60 = .ok (.invokespecial 49, 3) := by decide +kernel
theorem d_C_readFile_63 : decode M_C_readFile.2.1 63 = .ok (.goto 4, 3) := by decide +kernel
theorem d_C_readFile_66 : decode M_C_readFile.2.1 66 = .ok (.aconst_null, 1) := by decide +kernel
theorem d_C_readFile_67 : decode M_C_readFile.2.1 67 = .ok (.areturn, 1) := by decide +kernel
theorem d_C_readName_0 : decode M_C_readName.2.1 0 = .ok (.iconst 0, 1) := by decide +kernel
theorem d_C_readName_1 : decode M_C_readName.2.1 1 = .ok (.istore_n 2, 1) := by decide +kernel
theorem d_C_readName_2 : decode M_C_readName.2.1 2 = .ok (.iload_n 1, 1) := by decide +kernel
theorem d_C_readName_3 : decode M_C_readName.2.1 3 = .ok (.istore_n 3, 1) := by decide +kernel
theorem d_C_readName_4 : decode M_C_readName.2.1 4 = .ok (.iload_n 3, 1) := by decide +kernel
theorem d_C_readName_5 : decode M_C_readName.2.1 5 = .ok (.iload_n 1, 1) := by decide +kernel
theorem d_C_readName_6 : decode M_C_readName.2.1 6 = .ok (.bipush 6, 2) := by decide +kernel
theorem d_C_readName_8 : decode M_C_readName.2.1 8 = .ok (.iadd, 1) := by decide +kernel
theorem d_C_readName_9 : decode M_C_readName.2.1 9 = .ok (.if_icmp .ge 39, 3) := by decide +kernel
theorem d_C_readName_12 : decode M_C_readName.2.1 12 = .ok (.aload_n 0, 1) := by decide +kernel
theorem d_C_readName_13 : decode M_C_readName.2.1 13 = .ok (.iload_n 3, 1) := by decide +kernel
theorem d_C_readName_14 : decode M_C_readName.2.1 14 = .ok (.baload, 1) := by decide +kernel
theorem d_C_readName_15 : decode M_C_readName.2.1 15 = .ok (.bipush 97, 2) := by decide +kernel
theorem d_C_readName_17 : decode M_C_readName.2.1 17 = .ok (.isub, 1) := by decide +kernel
theorem d_C_readName_18 : decode M_C_readName.2.1 18 = .ok (.istore 4, 2) := by decide +kernel
theorem d_C_readName_20 : decode M_C_readName.2.1 20 = .ok (.iload 4, 2) := by decide +kernel
theorem d_C_readName_22 : decode M_C_readName.2.1 22 = .ok (.ifCond .lt 10, 3) := by decide +kernel
theorem d_C_readName_25 : decode M_C_readName.2.1 25 = .ok (.iload 4, 2) := by decide +kernel
theorem d_C_readName_27 : decode M_C_readName.2.1 27 = .ok (.bipush 15, 2) := by decide +kernel
theorem d_C_readName_29 : decode M_C_readName.2.1 29 = .ok (.if_icmp .le 5, 3) := by decide +kernel
theorem d_C_readName_32 : decode M_C_readName.2.1 32 = .ok (.iconst (-1), 1) := by decide +kernel
theorem d_C_readName_33 : decode M_C_readName.2.1 33 = .ok (.ireturn, 1) := by decide +kernel
theorem d_C_readName_34 : decode M_C_readName.2.1 34 = .ok (.bipush 16, 2) := by decide +kernel
theorem d_C_readName_36 : decode M_C_readName.2.1 36 = .ok (.iload_n 2, 1) := by decide +kernel
theorem d_C_readName_37 : decode M_C_readName.2.1 37 = .ok (.imul, 1) := by decide +kernel
theorem d_C_readName_38 : decode M_C_readName.2.1 38 = .ok (.iload 4, 2) := by decide +kernel
theorem d_C_readName_40 : decode M_C_readName.2.1 40 = .ok (.iadd, 1) := by decide +kernel
theorem d_C_readName_41 : decode M_C_readName.2.1 41 = .ok (.istore_n 2, 1) := by decide +kernel
theorem d_C_readName_42 : decode M_C_readName.2.1 42 = .ok (.iinc 3 1, 3) := by decide +kernel
theorem d_C_readName_45 : decode M_C_readName.2.1 45 = .ok (.goto (-41), 3) := by decide +kernel
theorem d_C_readName_48 : decode M_C_readName.2.1 48 = .ok (.iload_n 2, 1) := by decide +kernel
theorem d_C_readName_49 : decode M_C_readName.2.1 49 = .ok (.ireturn, 1) := by decide +kernel
theorem d_C_readOneName_0 : decode M_C_readOneName.2.1 0 = .ok (.iload_n 3, 1) := by decide +kernel
theorem d_C_readOneName_1 : decode M_C_readOneName.2.1 1 = .ok (.iload_n 2, 1) := by decide +kernel
theorem d_C_readOneName_2 : decode M_C_readOneName.2.1 2 = .ok (.isub, 1) := by decide +kernel
theorem d_C_readOneName_3 : decode M_C_readOneName.2.1 3 = .ok (.bipush 6, 2) := by decide +kernel
theorem d_C_readOneName_5 : decode M_C_readOneName.2.1 5 = .ok (.if_icmp .eq 5, 3) := by decide +kernel
theorem d_C_readOneName_8 : decode M_C_readOneName.2.1 8 = .ok (.aconst_null, 1) := by decide +kernel
theorem d_C_readOneName_9 : decode M_C_readOneName.2.1 9 = .ok (.areturn, 1) := by decide +kernel
theorem d_C_readOneName_10 : decode M_C_readOneName.2.1 10 = .ok (.aload_n 1, 1) := by decide +kernel
theorem d_C_readOneName_11 : decode M_C_readOneName.2.1 11 = .ok (.iload_n 2, 1) := by decide +kernel
theorem d_C_readOneName_12 : decode M_C_readOneName.2.1 12 = .ok (.invokestatic 52, 3) := by decide +kernel
theorem d_C_readOneName_15 : decode M_C_readOneName.2.1 15 = .ok (.istore 4, 2) := by decide +kernel
theorem d_C_readOneName_17 : decode M_C_readOneName.2.1 17 = .ok (.iload 4, 2) := by decide +kernel
theorem d_C_readOneName_19 : decode M_C_readOneName.2.1 19 = .ok (.iconst (-1), 1) := by decide +kernel
theorem d_C_readOneName_20 : decode M_C_readOneName.2.1 20 = .ok (.if_icmp .eq 19, 3) := by decide +kernel
theorem d_C_readOneName_23 : decode M_C_readOneName.2.1 23 = .ok (.new 10, 3) := by decide +kernel
theorem d_C_readOneName_26 : decode M_C_readOneName.2.1 26 = .ok (.dup, 1) := by decide +kernel
theorem d_C_readOneName_27 : decode M_C_readOneName.2.1 27 = .ok (.iload_n 0, 1) := by decide +kernel
theorem d_C_readOneName_28 : decode M_C_readOneName.2.1 28 = .ok (.iconst (-1), 1) := by decide +kernel
theorem d_C_readOneName_29 : decode M_C_readOneName.2.1 29 = .ok (.iconst 0, 1) := by decide +kernel
theorem d_C_readOneName_30 : decode M_C_readOneName.2.1 30 = .ok (.iload 4, 2) := by decide +kernel
theorem d_C_readOneName_32 : decode M_C_readOneName.2.1 32 = .ok (.iconst (-1), 1) := by decide +kernel
theorem d_C_readOneName_33 : decode M_C_readOneName.2.1 33 = .ok (.invokespecial 49, 3) := by decide +kernel
theorem d_C_readOneName_36 : decode M_C_readOneName.2.1 36 = .ok (.goto 4, 3) := by decide +kernel
theorem d_C_readOneName_39 : decode M_C_readOneName.2.1 39 = .ok (.aconst_null, 1) := by decide +kernel
theorem d_C_readOneName_40 : decode M_C_readOneName.2.1 40 = .ok (.areturn, 1) := by decide +kernel
theorem d_C_readTwoParents_0 : decode M_C_readTwoParents.2.1 0 = .ok (.iload_n 2, 1) := by decide +kernel
theorem d_C_readTwoParents_1 : decode M_C_readTwoParents.2.1 1 = .ok (.iload_n 1, 1) := by decide +kernel
theorem d_C_readTwoParents_2 : decode M_C_readTwoParents.2.1 2 = .ok (.isub, 1) := by decide +kernel
theorem d_C_readTwoParents_3 : decode M_C_readTwoParents.2.1 3 = .ok (.bipush 13, 2) := by decide +kernel
theorem d_C_readTwoParents_5 : decode M_C_readTwoParents.2.1 5 = .ok (.if_icmp .ne 14, 3) := by decide +kernel
theorem d_C_readTwoParents_8 : decode M_C_readTwoParents.2.1 8 = .ok (.aload_n 0, 1) := by decide +kernel
theorem d_C_readTwoParents_9 : decode M_C_readTwoParents.2.1 9 = .ok (.iload_n 1, 1) := by decide +kernel
theorem d_C_readTwoParents_10 : decode M_C_readTwoParents.2.1 10 = .ok (.bipush 6, 2) := by decide +kernel
theorem d_C_readTwoParents_12 : decode M_C_readTwoParents.2.1 12 = .ok (.iadd, 1) := by decide +kernel
theorem d_C_readTwoParents_13 : decode M_C_readTwoParents.2.1 13 = .ok (.baload, 1) := by decide +kernel
theorem d_C_readTwoParents_14 : decode M_C_readTwoParents.2.1 14 = .ok (.bipush 32, 2) := by decide +kernel
theorem d_C_readTwoParents_16 : decode M_C_readTwoParents.2.1 16 = .ok (.if_icmp .eq 5, 3) := by decide +kernel
theorem d_C_readTwoParents_19 : decode M_C_readTwoParents.2.1 19 = .ok (.aconst_null, 1) := by decide +kernel
theorem d_C_readTwoParents_20 : decode M_C_readTwoParents.2.1 20 = .ok (.areturn, 1) := by decide +kernel
theorem d_C_readTwoParents_21 : decode M_C_readTwoParents.2.1 21 = .ok (.aload_n 0, 1) := by decide +kernel
theorem d_C_readTwoParents_22 : decode M_C_readTwoParents.2.1 22 = .ok (.iload_n 1, 1) := by decide +kernel
theorem d_C_readTwoParents_23 : decode M_C_readTwoParents.2.1 23 = .ok (.invokestatic 52, 3) := by decide +kernel
theorem d_C_readTwoParents_26 : decode M_C_readTwoParents.2.1 26 = .ok (.istore_n 3, 1) := by decide +kernel
theorem d_C_readTwoParents_27 : decode M_C_readTwoParents.2.1 27 = .ok (.aload_n 0, 1) := by decide +kernel
theorem d_C_readTwoParents_28 : decode M_C_readTwoParents.2.1 28 = .ok (.iload_n 1, 1) := by decide +kernel
theorem d_C_readTwoParents_29 : decode M_C_readTwoParents.2.1 29 = .ok (.bipush 6, 2) := by decide +kernel
theorem d_C_readTwoParents_31 : decode M_C_readTwoParents.2.1 31 = .ok (.iadd, 1) := by decide +kernel
theorem d_C_readTwoParents_32 : decode M_C_readTwoParents.2.1 32 = .ok (.iconst 1, 1) := by decide +kernel
theorem d_C_readTwoParents_33 : decode M_C_readTwoParents.2.1 33 = .ok (.iadd, 1) := by decide +kernel
theorem d_C_readTwoParents_34 : decode M_C_readTwoParents.2.1 34 = .ok (.invokestatic 52, 3) := by decide +kernel
theorem d_C_readTwoParents_37 : decode M_C_readTwoParents.2.1 37 = .ok (.istore 4, 2) := by decide +kernel
theorem d_C_readTwoParents_39 : decode M_C_readTwoParents.2.1 39 = .ok (.iload_n 3, 1) := by decide +kernel
theorem d_C_readTwoParents_40 : decode M_C_readTwoParents.2.1 40 = .ok (.iconst (-1), 1) := by decide +kernel
theorem d_C_readTwoParents_41 : decode M_C_readTwoParents.2.1 41 = .ok (.if_icmp .eq 15, 3) := by decide +kernel
theorem d_C_readTwoParents_44 : decode M_C_readTwoParents.2.1 44 = .ok (.iload 4, 2) := by decide +kernel
theorem d_C_readTwoParents_46 : decode M_C_readTwoParents.2.1 46 = .ok (.iconst (-1), 1) := by decide +kernel
theorem d_C_readTwoParents_47 : decode M_C_readTwoParents.2.1 47 = .ok (.if_icmp .eq 9, 3) := by decide +kernel
theorem d_C_readTwoParents_50 : decode M_C_readTwoParents.2.1 50 = .ok (.iload_n 3, 1) := by decide +kernel
theorem d_C_readTwoParents_51 : decode M_C_readTwoParents.2.1 51 = .ok (.iload 4, 2) := by decide +kernel
theorem d_C_readTwoParents_53 : decode M_C_readTwoParents.2.1 53 = .ok (.if_icmp .ne 5, 3) := by decide +kernel
theorem d_C_readTwoParents_56 : decode M_C_readTwoParents.2.1 56 = .ok (.aconst_null, 1) := by decide +kernel
theorem d_C_readTwoParents_57 : decode M_C_readTwoParents.2.1 57 = .ok (.areturn, 1) := by decide +kernel
theorem d_C_readTwoParents_58 : decode M_C_readTwoParents.2.1 58 = .ok (.new 10, 3) := by decide +kernel
theorem d_C_readTwoParents_61 : decode M_C_readTwoParents.2.1 61 = .ok (.dup, 1) := by decide +kernel
theorem d_C_readTwoParents_62 : decode M_C_readTwoParents.2.1 62 = .ok (.bipush 80, 2) := by decide +kernel
theorem d_C_readTwoParents_64 : decode M_C_readTwoParents.2.1 64 = .ok (.iconst (-1), 1) := by decide +kernel
theorem d_C_readTwoParents_65 : decode M_C_readTwoParents.2.1 65 = .ok (.iconst 0, 1) := by decide +kernel
theorem d_C_readTwoParents_66 : decode M_C_readTwoParents.2.1 66 = .ok (.iload_n 3, 1) := by decide +kernel
theorem d_C_readTwoParents_67 : decode M_C_readTwoParents.2.1 67 = .ok (.iload 4, 2) := by decide +kernel
theorem d_C_readTwoParents_69 : decode M_C_readTwoParents.2.1 69 = .ok (.invokespecial 49, 3) := by decide +kernel
theorem d_C_readTwoParents_72 : decode M_C_readTwoParents.2.1 72 = .ok (.areturn, 1) := by decide +kernel
theorem d_C_readTag_0 : decode M_C_readTag.2.1 0 = .ok (.iload_n 2, 1) := by decide +kernel
theorem d_C_readTag_1 : decode M_C_readTag.2.1 1 = .ok (.iload_n 1, 1) := by decide +kernel
theorem d_C_readTag_2 : decode M_C_readTag.2.1 2 = .ok (.isub, 1) := by decide +kernel
theorem d_C_readTag_3 : decode M_C_readTag.2.1 3 = .ok (.iconst 4, 1) := by decide +kernel
theorem d_C_readTag_4 : decode M_C_readTag.2.1 4 = .ok (.if_icmp .lt 13, 3) := by decide +kernel
theorem d_C_readTag_7 : decode M_C_readTag.2.1 7 = .ok (.aload_n 0, 1) := by decide +kernel
theorem d_C_readTag_8 : decode M_C_readTag.2.1 8 = .ok (.iload_n 1, 1) := by decide +kernel
theorem d_C_readTag_9 : decode M_C_readTag.2.1 9 = .ok (.iconst 2, 1) := by decide +kernel
theorem d_C_readTag_10 : decode M_C_readTag.2.1 10 = .ok (.iadd, 1) := by decide +kernel
theorem d_C_readTag_11 : decode M_C_readTag.2.1 11 = .ok (.baload, 1) := by decide +kernel
theorem d_C_readTag_12 : decode M_C_readTag.2.1 12 = .ok (.bipush 32, 2) := by decide +kernel
theorem d_C_readTag_14 : decode M_C_readTag.2.1 14 = .ok (.if_icmp .eq 5, 3) := by decide +kernel
theorem d_C_readTag_17 : decode M_C_readTag.2.1 17 = .ok (.aconst_null, 1) := by decide +kernel
theorem d_C_readTag_18 : decode M_C_readTag.2.1 18 = .ok (.areturn, 1) := by decide +kernel
theorem d_C_readTag_19 : decode M_C_readTag.2.1 19 = .ok (.aload_n 0, 1) := by decide +kernel
theorem d_C_readTag_20 : decode M_C_readTag.2.1 20 = .ok (.iload_n 1, 1) := by decide +kernel
theorem d_C_readTag_21 : decode M_C_readTag.2.1 21 = .ok (.baload, 1) := by decide +kernel
theorem d_C_readTag_22 : decode M_C_readTag.2.1 22 = .ok (.bipush 43, 2) := by decide +kernel
theorem d_C_readTag_24 : decode M_C_readTag.2.1 24 = .ok (.if_icmp .ne 7, 3) := by decide +kernel
theorem d_C_readTag_27 : decode M_C_readTag.2.1 27 = .ok (.iconst 1, 1) := by decide +kernel
theorem d_C_readTag_28 : decode M_C_readTag.2.1 28 = .ok (.goto 4, 3) := by decide +kernel
theorem d_C_readTag_31 : decode M_C_readTag.2.1 31 = .ok (.iconst 0, 1) := by decide +kernel
theorem d_C_readTag_32 : decode M_C_readTag.2.1 32 = .ok (.istore_n 3, 1) := by decide +kernel
theorem d_C_readTag_33 : decode M_C_readTag.2.1 33 = .ok (.aload_n 0, 1) := by decide +kernel
theorem d_C_readTag_34 : decode M_C_readTag.2.1 34 = .ok (.iload_n 1, 1) := by decide +kernel
theorem d_C_readTag_35 : decode M_C_readTag.2.1 35 = .ok (.iconst 1, 1) := by decide +kernel
theorem d_C_readTag_36 : decode M_C_readTag.2.1 36 = .ok (.iadd, 1) := by decide +kernel
theorem d_C_readTag_37 : decode M_C_readTag.2.1 37 = .ok (.baload, 1) := by decide +kernel
theorem d_C_readTag_38 : decode M_C_readTag.2.1 38 = .ok (.bipush 48, 2) := by decide +kernel
theorem d_C_readTag_40 : decode M_C_readTag.2.1 40 = .ok (.isub, 1) := by decide +kernel
theorem d_C_readTag_41 : decode M_C_readTag.2.1 41 = .ok (.istore 4, 2) := by decide +kernel
theorem d_C_readTag_43 : decode M_C_readTag.2.1 43 = .ok (.iload_n 3, 1) := by decide +kernel
theorem d_C_readTag_44 : decode M_C_readTag.2.1 44 = .ok (.ifCond .ne 11, 3) := by decide +kernel
theorem d_C_readTag_47 : decode M_C_readTag.2.1 47 = .ok (.aload_n 0, 1) := by decide +kernel
theorem d_C_readTag_48 : decode M_C_readTag.2.1 48 = .ok (.iload_n 1, 1) := by decide +kernel
theorem d_C_readTag_49 : decode M_C_readTag.2.1 49 = .ok (.baload, 1) := by decide +kernel
theorem d_C_readTag_50 : decode M_C_readTag.2.1 50 = .ok (.bipush 45, 2) := by decide +kernel
theorem d_C_readTag_52 : decode M_C_readTag.2.1 52 = .ok (.if_icmp .ne 11, 3) := by decide +kernel
theorem d_C_readTag_55 : decode M_C_readTag.2.1 55 = .ok (.iload 4, 2) := by decide +kernel
theorem d_C_readTag_57 : decode M_C_readTag.2.1 57 = .ok (.invokestatic 45, 3) := by decide +kernel
theorem d_C_readTag_60 : decode M_C_readTag.2.1 60 = .ok (.ifCond .ne 5, 3) := by decide +kernel
theorem d_C_readTag_63 : decode M_C_readTag.2.1 63 = .ok (.aconst_null, 1) := by decide +kernel
theorem d_C_readTag_64 : decode M_C_readTag.2.1 64 = .ok (.areturn, 1) := by decide +kernel
theorem d_C_readTag_65 : decode M_C_readTag.2.1 65 = .ok (.iload_n 2, 1) := by decide +kernel
theorem d_C_readTag_66 : decode M_C_readTag.2.1 66 = .ok (.iload_n 1, 1) := by decide +kernel
theorem d_C_readTag_67 : decode M_C_readTag.2.1 67 = .ok (.isub, 1) := by decide +kernel
theorem d_C_readTag_68 : decode M_C_readTag.2.1 68 = .ok (.iconst 4, 1) := by decide +kernel
theorem d_C_readTag_69 : decode M_C_readTag.2.1 69 = .ok (.if_icmp .ne 28, 3) := by decide +kernel
theorem d_C_readTag_72 : decode M_C_readTag.2.1 72 = .ok (.aload_n 0, 1) := by decide +kernel
theorem d_C_readTag_73 : decode M_C_readTag.2.1 73 = .ok (.iload_n 1, 1) := by decide +kernel
theorem d_C_readTag_74 : decode M_C_readTag.2.1 74 = .ok (.iconst 3, 1) := by decide +kernel
theorem d_C_readTag_75 : decode M_C_readTag.2.1 75 = .ok (.iadd, 1) := by decide +kernel
theorem d_C_readTag_76 : decode M_C_readTag.2.1 76 = .ok (.baload, 1) := by decide +kernel
theorem d_C_readTag_77 : decode M_C_readTag.2.1 77 = .ok (.bipush 42, 2) := by decide +kernel
theorem d_C_readTag_79 : decode M_C_readTag.2.1 79 = .ok (.if_icmp .ne 18, 3) := by decide +kernel
theorem d_C_readTag_82 : decode M_C_readTag.2.1 82 = .ok (.new 10, 3) := by decide +kernel
theorem d_C_readTag_85 : decode M_C_readTag.2.1 85 = .ok (.dup, 1) := by decide +kernel
theorem d_C_readTag_86 : decode M_C_readTag.2.1 86 = .ok (.bipush 84, 2) := by decide +kernel
theorem d_C_readTag_88 : decode M_C_readTag.2.1 88 = .ok (.iload 4, 2) := by decide +kernel
theorem d_C_readTag_90 : decode M_C_readTag.2.1 90 = .ok (.iload_n 3, 1) := by decide +kernel
theorem d_C_readTag_91 : decode M_C_readTag.2.1 91 = .ok (.iconst (-1), 1) := by decide +kernel
theorem d_C_readTag_92 : decode M_C_readTag.2.1 92 = .ok (.iconst (-1), 1) := by decide +kernel
theorem d_C_readTag_93 : decode M_C_readTag.2.1 93 = .ok (.invokespecial 49, 3) := by decide +kernel
theorem d_C_readTag_96 : decode M_C_readTag.2.1 96 = .ok (.areturn, 1) := by decide +kernel
theorem d_C_readTag_97 : decode M_C_readTag.2.1 97 = .ok (.iload_n 2, 1) := by decide +kernel
theorem d_C_readTag_98 : decode M_C_readTag.2.1 98 = .ok (.iload_n 1, 1) := by decide +kernel
theorem d_C_readTag_99 : decode M_C_readTag.2.1 99 = .ok (.isub, 1) := by decide +kernel
theorem d_C_readTag_100 : decode M_C_readTag.2.1 100 = .ok (.bipush 9, 2) := by decide +kernel
theorem d_C_readTag_102 : decode M_C_readTag.2.1 102 = .ok (.if_icmp .eq 5, 3) := by decide +kernel
theorem d_C_readTag_105 : decode M_C_readTag.2.1 105 = .ok (.aconst_null, 1) := by decide +kernel
theorem d_C_readTag_106 : decode M_C_readTag.2.1 106 = .ok (.areturn, 1) := by decide +kernel
theorem d_C_readTag_107 : decode M_C_readTag.2.1 107 = .ok (.aload_n 0, 1) := by decide +kernel
theorem d_C_readTag_108 : decode M_C_readTag.2.1 108 = .ok (.iload_n 1, 1) := by decide +kernel
theorem d_C_readTag_109 : decode M_C_readTag.2.1 109 = .ok (.iconst 3, 1) := by decide +kernel
theorem d_C_readTag_110 : decode M_C_readTag.2.1 110 = .ok (.iadd, 1) := by decide +kernel
theorem d_C_readTag_111 : decode M_C_readTag.2.1 111 = .ok (.invokestatic 52, 3) := by decide +kernel
theorem d_C_readTag_114 : decode M_C_readTag.2.1 114 = .ok (.istore 5, 2) := by decide +kernel
theorem d_C_readTag_116 : decode M_C_readTag.2.1 116 = .ok (.iload 5, 2) := by decide +kernel
theorem d_C_readTag_118 : decode M_C_readTag.2.1 118 = .ok (.iconst (-1), 1) := by decide +kernel
theorem d_C_readTag_119 : decode M_C_readTag.2.1 119 = .ok (.if_icmp .eq 21, 3) := by decide +kernel
theorem d_C_readTag_122 : decode M_C_readTag.2.1 122 = .ok (.new 10, 3) := by decide +kernel
theorem d_C_readTag_125 : decode M_C_readTag.2.1 125 = .ok (.dup, 1) := by decide +kernel
theorem d_C_readTag_126 : decode M_C_readTag.2.1 126 = .ok (.bipush 84, 2) := by decide +kernel
theorem d_C_readTag_128 : decode M_C_readTag.2.1 128 = .ok (.iload 4, 2) := by decide +kernel
theorem d_C_readTag_130 : decode M_C_readTag.2.1 130 = .ok (.iload_n 3, 1) := by decide +kernel
theorem d_C_readTag_131 : decode M_C_readTag.2.1 131 = .ok (.iload 5, 2) := by decide +kernel
theorem d_C_readTag_133 : decode M_C_readTag.2.1 133 = .ok (.iconst (-1), 1) := by decide +kernel
theorem d_C_readTag_134 : decode M_C_readTag.2.1 134 = .ok (.invokespecial 49, 3) := by decide +kernel
theorem d_C_readTag_137 : decode M_C_readTag.2.1 137 = .ok (.goto 4, 3) := by decide +kernel
theorem d_C_readTag_140 : decode M_C_readTag.2.1 140 = .ok (.aconst_null, 1) := by decide +kernel
theorem d_C_readTag_141 : decode M_C_readTag.2.1 141 = .ok (.areturn, 1) := by decide +kernel
theorem d_G_digestWithFile_0 : decode M_G_digestWithFile.2.1 0 = .ok (.aload_n 2, 1) := by decide +kernel
theorem d_G_digestWithFile_1 : decode M_G_digestWithFile.2.1 1 = .ok (.ifnull 12, 3) := by decide +kernel
theorem d_G_digestWithFile_4 : decode M_G_digestWithFile.2.1 4 = .ok (.aload_n 2, 1) := by decide +kernel
theorem d_G_digestWithFile_5 : decode M_G_digestWithFile.2.1 5 = .ok (.getfield 95, 3) := by decide +kernel
theorem d_G_digestWithFile_8 : decode M_G_digestWithFile.2.1 8 = .ok (.bipush 70, 2) := by decide +kernel
theorem d_G_digestWithFile_10 : decode M_G_digestWithFile.2.1 10 = .ok (.if_icmp .eq 5, 3) := by decide +kernel
theorem d_G_digestWithFile_13 : decode M_G_digestWithFile.2.1 13 = .ok (.iload_n 1, 1) := by decide +kernel
theorem d_G_digestWithFile_14 : decode M_G_digestWithFile.2.1 14 = .ok (.ireturn, 1) := by decide +kernel
theorem d_G_digestWithFile_15 : decode M_G_digestWithFile.2.1 15 = .ok (.aload_n 0, 1) := by decide +kernel
theorem d_G_digestWithFile_16 : decode M_G_digestWithFile.2.1 16 = .ok (.aload_n 2, 1) := by decide +kernel
theorem d_G_digestWithFile_17 : decode M_G_digestWithFile.2.1 17 = .ok (.getfield 86, 3) := by decide +kernel
theorem d_G_digestWithFile_20 : decode M_G_digestWithFile.2.1 20 = .ok (.invokevirtual 41, 3) := by decide +kernel
theorem d_G_digestWithFile_23 : decode M_G_digestWithFile.2.1 23 = .ok (.astore_n 3, 1) := by decide +kernel
theorem d_G_digestWithFile_24 : decode M_G_digestWithFile.2.1 24 = .ok (.aload_n 3, 1) := by decide +kernel
theorem d_G_digestWithFile_25 : decode M_G_digestWithFile.2.1 25 = .ok (.ifnonnull 7, 3) := by decide +kernel
theorem d_G_digestWithFile_28 : decode M_G_digestWithFile.2.1 28 = .ok (.iconst (-1), 1) := by decide +kernel
theorem d_G_digestWithFile_29 : decode M_G_digestWithFile.2.1 29 = .ok (.goto 16, 3) := by decide +kernel
theorem d_G_digestWithFile_32 : decode M_G_digestWithFile.2.1 32 = .ok (.iload_n 1, 1) := by decide +kernel
theorem d_G_digestWithFile_33 : decode M_G_digestWithFile.2.1 33 = .ok (.aload_n 3, 1) := by decide +kernel
theorem d_G_digestWithFile_34 : decode M_G_digestWithFile.2.1 34 = .ok (.getfield 113, 3) := by decide +kernel
theorem d_G_digestWithFile_37 : decode M_G_digestWithFile.2.1 37 = .ok (.aload_n 3, 1) := by decide +kernel
theorem d_G_digestWithFile_38 : decode M_G_digestWithFile.2.1 38 = .ok (.getfield 113, 3) := by decide +kernel
theorem d_G_digestWithFile_41 : decode M_G_digestWithFile.2.1 41 = .ok (.arraylength, 1) := by decide +kernel
theorem d_G_digestWithFile_42 : decode M_G_digestWithFile.2.1 42 = .ok (.invokestatic 117, 3) := by decide +kernel
theorem d_G_digestWithFile_45 : decode M_G_digestWithFile.2.1 45 = .ok (.ireturn, 1) := by decide +kernel
theorem d_G_find_0 : decode M_G_find.2.1 0 = .ok (.iconst 0, 1) := by decide +kernel
theorem d_G_find_1 : decode M_G_find.2.1 1 = .ok (.istore_n 2, 1) := by decide +kernel
theorem d_G_find_2 : decode M_G_find.2.1 2 = .ok (.iload_n 2, 1) := by decide +kernel
theorem d_G_find_3 : decode M_G_find.2.1 3 = .ok (.aload_n 0, 1) := by decide +kernel
theorem d_G_find_4 : decode M_G_find.2.1 4 = .ok (.getfield 17, 3) := by decide +kernel
theorem d_G_find_7 : decode M_G_find.2.1 7 = .ok (.if_icmp .ge 29, 3) := by decide +kernel
theorem d_G_find_10 : decode M_G_find.2.1 10 = .ok (.aload_n 0, 1) := by decide +kernel
theorem d_G_find_11 : decode M_G_find.2.1 11 = .ok (.getfield 11, 3) := by decide +kernel
theorem d_G_find_14 : decode M_G_find.2.1 14 = .ok (.iload_n 2, 1) := by decide +kernel
theorem d_G_find_15 : decode M_G_find.2.1 15 = .ok (.aaload, 1) := by decide +kernel
theorem d_G_find_16 : decode M_G_find.2.1 16 = .ok (.getfield 45, 3) := by decide +kernel
theorem d_G_find_19 : decode M_G_find.2.1 19 = .ok (.iload_n 1, 1) := by decide +kernel
theorem d_G_find_20 : decode M_G_find.2.1 20 = .ok (.if_icmp .ne 10, 3) := by decide +kernel
theorem d_G_find_23 : decode M_G_find.2.1 23 = .ok (.aload_n 0, 1) := by decide +kernel
theorem d_G_find_24 : decode M_G_find.2.1 24 = .ok (.getfield 11, 3) := by decide +kernel
theorem d_G_find_27 : decode M_G_find.2.1 27 = .ok (.iload_n 2, 1) := by decide +kernel
theorem d_G_find_28 : decode M_G_find.2.1 28 = .ok (.aaload, 1) := by decide +kernel
theorem d_G_find_29 : decode M_G_find.2.1 29 = .ok (.areturn, 1) := by decide +kernel
theorem d_G_find_30 : decode M_G_find.2.1 30 = .ok (.iinc 2 1, 3) := by decide +kernel
theorem d_G_find_33 : decode M_G_find.2.1 33 = .ok (.goto (-31), 3) := by decide +kernel
theorem d_G_find_36 : decode M_G_find.2.1 36 = .ok (.aconst_null, 1) := by decide +kernel
theorem d_G_find_37 : decode M_G_find.2.1 37 = .ok (.areturn, 1) := by decide +kernel
theorem d_B_put_0 : decode M_B_put.2.1 0 = .ok (.aload_n 0, 1) := by decide +kernel
theorem d_B_put_1 : decode M_B_put.2.1 1 = .ok (.iload_n 1, 1) := by decide +kernel
theorem d_B_put_2 : decode M_B_put.2.1 2 = .ok (.invokevirtual 56, 3) := by decide +kernel
theorem d_B_put_5 : decode M_B_put.2.1 5 = .ok (.astore_n 2, 1) := by decide +kernel
theorem d_B_put_6 : decode M_B_put.2.1 6 = .ok (.aload_n 2, 1) := by decide +kernel
theorem d_B_put_7 : decode M_B_put.2.1 7 = .ok (.ifnull 13, 3) := by decide +kernel
theorem d_B_put_10 : decode M_B_put.2.1 10 = .ok (.aload_n 0, 1) := by decide +kernel
theorem d_B_put_11 : decode M_B_put.2.1 11 = .ok (.getfield 22, 3) := by decide +kernel
theorem d_B_put_14 : decode M_B_put.2.1 14 = .ok (.getfield 40, 3) := by decide +kernel
theorem d_B_put_17 : decode M_B_put.2.1 17 = .ok (.ifCond .ne 5, 3) := by decide +kernel
theorem d_B_put_20 : decode M_B_put.2.1 20 = .ok (.iconst (-1), 1) := by decide +kernel
theorem d_B_put_21 : decode M_B_put.2.1 21 = .ok (.ireturn, 1) := by decide +kernel
theorem d_B_put_22 : decode M_B_put.2.1 22 = .ok (.aload_n 0, 1) := by decide +kernel
theorem d_B_put_23 : decode M_B_put.2.1 23 = .ok (.getfield 22, 3) := by decide +kernel
theorem d_B_put_26 : decode M_B_put.2.1 26 = .ok (.invokevirtual 74, 3) := by decide +kernel
theorem d_B_put_29 : decode M_B_put.2.1 29 = .ok (.istore_n 3, 1) := by decide +kernel
theorem d_B_put_30 : decode M_B_put.2.1 30 = .ok (.aload_n 2, 1) := by decide +kernel
theorem d_B_put_31 : decode M_B_put.2.1 31 = .ok (.iload_n 3, 1) := by decide +kernel
theorem d_B_put_32 : decode M_B_put.2.1 32 = .ok (.invokevirtual 78, 3) := by decide +kernel
theorem d_B_put_35 : decode M_B_put.2.1 35 = .ok (.ifCond .ne 23, 3) := by decide +kernel
theorem d_B_put_38 : decode M_B_put.2.1 38 = .ok (.aload_n 2, 1) := by decide +kernel
theorem d_B_put_39 : decode M_B_put.2.1 39 = .ok (.invokevirtual 81, 3) := by decide +kernel
theorem d_B_put_42 : decode M_B_put.2.1 42 = .ok (.ifCond .eq 5, 3) := by decide +kernel
theorem d_B_put_45 : decode M_B_put.2.1 45 = .ok (.iconst (-1), 1) := by decide +kernel
theorem d_B_put_46 : decode M_B_put.2.1 46 = .ok (.ireturn, 1) := by decide +kernel
theorem d_B_put_47 : decode M_B_put.2.1 47 = .ok (.aload_n 2, 1) := by decide +kernel
theorem d_B_put_48 : decode M_B_put.2.1 48 = .ok (.aload_n 0, 1) := by decide +kernel
theorem d_B_put_49 : decode M_B_put.2.1 49 = .ok (.getfield 22, 3) := by decide +kernel
theorem d_B_put_52 : decode M_B_put.2.1 52 = .ok (.invokestatic 85, 3) := by decide +kernel
theorem d_B_put_55 : decode M_B_put.2.1 55 = .ok (.invokevirtual 91, 3) := by decide +kernel
theorem d_B_put_58 : decode M_B_put.2.1 58 = .ok (.aload_n 0, 1) := by decide +kernel
theorem d_B_put_59 : decode M_B_put.2.1 59 = .ok (.getfield 22, 3) := by decide +kernel
theorem d_B_put_62 : decode M_B_put.2.1 62 = .ok (.invokevirtual 33, 3) := by decide +kernel
theorem d_B_put_65 : decode M_B_put.2.1 65 = .ok (.iload_n 3, 1) := by decide +kernel
theorem d_B_put_66 : decode M_B_put.2.1 66 = .ok (.ireturn, 1) := by decide +kernel
theorem d_G_holds_0 : decode M_G_holds.2.1 0 = .ok (.aload_n 0, 1) := by decide +kernel
theorem d_G_holds_1 : decode M_G_holds.2.1 1 = .ok (.iload_n 1, 1) := by decide +kernel
theorem d_G_holds_2 : decode M_G_holds.2.1 2 = .ok (.invokevirtual 41, 3) := by decide +kernel
theorem d_G_holds_5 : decode M_G_holds.2.1 5 = .ok (.ifnull 7, 3) := by decide +kernel
theorem d_G_holds_8 : decode M_G_holds.2.1 8 = .ok (.iconst 1, 1) := by decide +kernel
theorem d_G_holds_9 : decode M_G_holds.2.1 9 = .ok (.goto 4, 3) := by decide +kernel
theorem d_G_holds_12 : decode M_G_holds.2.1 12 = .ok (.iconst 0, 1) := by decide +kernel
theorem d_G_holds_13 : decode M_G_holds.2.1 13 = .ok (.ireturn, 1) := by decide +kernel
theorem d_G_isFull_0 : decode M_G_isFull.2.1 0 = .ok (.aload_n 0, 1) := by decide +kernel
theorem d_G_isFull_1 : decode M_G_isFull.2.1 1 = .ok (.getfield 17, 3) := by decide +kernel
theorem d_G_isFull_4 : decode M_G_isFull.2.1 4 = .ok (.bipush 32, 2) := by decide +kernel
theorem d_G_isFull_6 : decode M_G_isFull.2.1 6 = .ok (.if_icmp .lt 7, 3) := by decide +kernel
theorem d_G_isFull_9 : decode M_G_isFull.2.1 9 = .ok (.iconst 1, 1) := by decide +kernel
theorem d_G_isFull_10 : decode M_G_isFull.2.1 10 = .ok (.goto 4, 3) := by decide +kernel
theorem d_G_isFull_13 : decode M_G_isFull.2.1 13 = .ok (.iconst 0, 1) := by decide +kernel
theorem d_G_isFull_14 : decode M_G_isFull.2.1 14 = .ok (.ireturn, 1) := by decide +kernel
theorem d_A_of_0 : decode M_A_of.2.1 0 = .ok (.aload_n 0, 1) := by decide +kernel
theorem d_A_of_1 : decode M_A_of.2.1 1 = .ok (.getfield 40, 3) := by decide +kernel
theorem d_A_of_4 : decode M_A_of.2.1 4 = .ok (.aload_n 0, 1) := by decide +kernel
theorem d_A_of_5 : decode M_A_of.2.1 5 = .ok (.getfield 43, 3) := by decide +kernel
theorem d_A_of_8 : decode M_A_of.2.1 8 = .ok (.invokestatic 46, 3) := by decide +kernel
theorem d_A_of_11 : decode M_A_of.2.1 11 = .ok (.astore_n 1, 1) := by decide +kernel
theorem d_A_of_12 : decode M_A_of.2.1 12 = .ok (.aload_n 1, 1) := by decide +kernel
theorem d_A_of_13 : decode M_A_of.2.1 13 = .ok (.invokestatic 52, 3) := by decide +kernel
theorem d_A_of_16 : decode M_A_of.2.1 16 = .ok (.astore_n 2, 1) := by decide +kernel
theorem d_A_of_17 : decode M_A_of.2.1 17 = .ok (.aload_n 1, 1) := by decide +kernel
theorem d_A_of_18 : decode M_A_of.2.1 18 = .ok (.aload_n 2, 1) := by decide +kernel
theorem d_A_of_19 : decode M_A_of.2.1 19 = .ok (.invokestatic 56, 3) := by decide +kernel
theorem d_A_of_22 : decode M_A_of.2.1 22 = .ok (.ifCond .eq 10, 3) := by decide +kernel
theorem d_A_of_25 : decode M_A_of.2.1 25 = .ok (.aload_n 2, 1) := by decide +kernel
theorem d_A_of_26 : decode M_A_of.2.1 26 = .ok (.invokestatic 60, 3) := by decide +kernel
theorem d_A_of_29 : decode M_A_of.2.1 29 = .ok (.goto 4, 3) := by decide +kernel
theorem d_A_of_32 : decode M_A_of.2.1 32 = .ok (.iconst 0, 1) := by decide +kernel
theorem d_A_of_33 : decode M_A_of.2.1 33 = .ok (.istore_n 3, 1) := by decide +kernel
theorem d_A_of_34 : decode M_A_of.2.1 34 = .ok (.new 10, 3) := by decide +kernel
theorem d_A_of_37 : decode M_A_of.2.1 37 = .ok (.dup, 1) := by decide +kernel
theorem d_A_of_38 : decode M_A_of.2.1 38 = .ok (.aload_n 1, 1) := by decide +kernel
theorem d_A_of_39 : decode M_A_of.2.1 39 = .ok (.iload_n 3, 1) := by decide +kernel
theorem d_A_of_40 : decode M_A_of.2.1 40 = .ok (.iload_n 3, 1) := by decide +kernel
theorem d_A_of_41 : decode M_A_of.2.1 41 = .ok (.ifCond .ne 10, 3) := by decide +kernel
theorem d_A_of_44 : decode M_A_of.2.1 44 = .ok (.iconst 0, 1) := by decide +kernel
theorem d_A_of_45 : decode M_A_of.2.1 45 = .ok (.anewarray 64, 3) := by decide +kernel
theorem d_A_of_48 : decode M_A_of.2.1 48 = .ok (.goto 4, 3) := by decide +kernel
theorem d_A_of_51 : decode M_A_of.2.1 51 = .ok (.aload_n 2, 1) := by decide +kernel
theorem d_A_of_52 : decode M_A_of.2.1 52 = .ok (.invokespecial 66, 3) := by decide +kernel
theorem d_A_of_55 : decode M_A_of.2.1 55 = .ok (.areturn, 1) := by decide +kernel
theorem d_A_readLines_0 : decode M_A_readLines.2.1 0 = .ok (.aload_n 0, 1) := by decide +kernel
theorem d_A_readLines_1 : decode M_A_readLines.2.1 1 = .ok (.arraylength, 1) := by decide +kernel
theorem d_A_readLines_2 : decode M_A_readLines.2.1 2 = .ok (.ifCond .eq 14, 3) := by decide +kernel
theorem d_A_readLines_5 : decode M_A_readLines.2.1 5 = .ok (.aload_n 0, 1) := by decide +kernel
theorem d_A_readLines_6 : decode M_A_readLines.2.1 6 = .ok (.aload_n 0, 1) := by decide +kernel
theorem d_A_readLines_7 : decode M_A_readLines.2.1 7 = .ok (.arraylength, 1) := by decide +kernel
theorem d_A_readLines_8 : decode M_A_readLines.2.1 8 = .ok (.iconst 1, 1) := by decide +kernel
theorem d_A_readLines_9 : decode M_A_readLines.2.1 9 = .ok (.isub, 1) := by decide +kernel
theorem d_A_readLines_10 : decode M_A_readLines.2.1 10 = .ok (.baload, 1) := by decide +kernel
theorem d_A_readLines_11 : decode M_A_readLines.2.1 11 = .ok (.bipush 10, 2) := by decide +kernel
theorem d_A_readLines_13 : decode M_A_readLines.2.1 13 = .ok (.if_icmp .eq 8, 3) := by decide +kernel
theorem d_A_readLines_16 : decode M_A_readLines.2.1 16 = .ok (.iconst 0, 1) := by decide +kernel
theorem d_A_readLines_17 : decode M_A_readLines.2.1 17 = .ok (.anewarray 64, 3) := by decide +kernel
theorem d_A_readLines_20 : decode M_A_readLines.2.1 20 = .ok (.areturn, 1) := by decide +kernel
theorem d_A_readLines_21 : decode M_A_readLines.2.1 21 = .ok (.aload_n 0, 1) := by decide +kernel
theorem d_A_readLines_22 : decode M_A_readLines.2.1 22 = .ok (.invokestatic 69, 3) := by decide +kernel
theorem d_A_readLines_25 : decode M_A_readLines.2.1 25 = .ok (.anewarray 64, 3) := by decide +kernel
theorem d_A_readLines_28 : decode M_A_readLines.2.1 28 = .ok (.astore_n 1, 1) := by decide +kernel
theorem d_A_readLines_29 : decode M_A_readLines.2.1 29 = .ok (.iconst 0, 1) := by decide +kernel
theorem d_A_readLines_30 : decode M_A_readLines.2.1 30 = .ok (.istore_n 2, 1) := by decide +kernel
theorem d_A_readLines_31 : decode M_A_readLines.2.1 31 = .ok (.iconst 0, 1) := by decide +kernel
theorem d_A_readLines_32 : decode M_A_readLines.2.1 32 = .ok (.istore_n 3, 1) := by decide +kernel
theorem d_A_readLines_33 : decode M_A_readLines.2.1 33 = .ok (.iconst 0, 1) := by decide +kernel
theorem d_A_readLines_34 : decode M_A_readLines.2.1 34 = .ok (.istore 4, 2) := by decide +kernel
theorem d_A_readLines_36 : decode M_A_readLines.2.1 36 = .ok (.iload 4, 2) := by decide +kernel
theorem d_A_readLines_38 : decode M_A_readLines.2.1 38 = .ok (.aload_n 0, 1) := by decide +kernel
theorem d_A_readLines_39 : decode M_A_readLines.2.1 39 = .ok (.arraylength, 1) := by decide +kernel
theorem d_A_readLines_40 : decode M_A_readLines.2.1 40 = .ok (.if_icmp .ge 53, 3) := by decide +kernel
theorem d_A_readLines_43 : decode M_A_readLines.2.1 43 = .ok (.iload_n 3, 1) := by decide +kernel
theorem d_A_readLines_44 : decode M_A_readLines.2.1 44 = .ok (.aload_n 1, 1) := by decide +kernel
theorem d_A_readLines_45 : decode M_A_readLines.2.1 45 = .ok (.arraylength, 1) := by decide +kernel
theorem d_A_readLines_46 : decode M_A_readLines.2.1 46 = .ok (.if_icmp .ge 47, 3) := by decide +kernel
theorem d_A_readLines_49 : decode M_A_readLines.2.1 49 = .ok (.aload_n 0, 1) := by decide +kernel
theorem d_A_readLines_50 : decode M_A_readLines.2.1 50 = .ok (.iload 4, 2) := by decide +kernel
theorem d_A_readLines_52 : decode M_A_readLines.2.1 52 = .ok (.baload, 1) := by decide +kernel
theorem d_A_readLines_53 : decode M_A_readLines.2.1 53 = .ok (.bipush 10, 2) := by decide +kernel
theorem d_A_readLines_55 : decode M_A_readLines.2.1 55 = .ok (.if_icmp .ne 32, 3) := by decide +kernel
theorem d_A_readLines_58 : decode M_A_readLines.2.1 58 = .ok (.aload_n 1, 1) := by decide +kernel
theorem d_A_readLines_59 : decode M_A_readLines.2.1 59 = .ok (.iload_n 3, 1) := by decide +kernel
theorem d_A_readLines_60 : decode M_A_readLines.2.1 60 = .ok (.aload_n 0, 1) := by decide +kernel
theorem d_A_readLines_61 : decode M_A_readLines.2.1 61 = .ok (.iload_n 2, 1) := by decide +kernel
theorem d_A_readLines_62 : decode M_A_readLines.2.1 62 = .ok (.iload 4, 2) := by decide +kernel
theorem d_A_readLines_64 : decode M_A_readLines.2.1 64 = .ok (.invokestatic 73, 3) := by decide +kernel
theorem d_A_readLines_67 : decode M_A_readLines.2.1 67 = .ok (.aastore, 1) := by decide +kernel
theorem d_A_readLines_68 : decode M_A_readLines.2.1 68 = .ok (.aload_n 1, 1) := by decide +kernel
theorem d_A_readLines_69 : decode M_A_readLines.2.1 69 = .ok (.iload_n 3, 1) := by decide +kernel
theorem d_A_readLines_70 : decode M_A_readLines.2.1 70 = .ok (.aaload, 1) := by decide +kernel
theorem d_A_readLines_71 : decode M_A_readLines.2.1 71 = .ok (.ifnonnull 8, 3) := by decide +kernel
theorem d_A_readLines_74 : decode M_A_readLines.2.1 74 = .ok (.iconst 0, 1) := by decide +kernel
theorem d_A_readLines_75 : decode M_A_readLines.2.1 75 = .ok (.anewarray 64, 3) := by decide +kernel
theorem d_A_readLines_78 : decode M_A_readLines.2.1 78 = .ok (.areturn, 1) := by decide +kernel
theorem d_A_readLines_79 : decode M_A_readLines.2.1 79 = .ok (.iinc 3 1, 3) := by decide +kernel
theorem d_A_readLines_82 : decode M_A_readLines.2.1 82 = .ok (.iload 4, 2) := by decide +kernel
theorem d_A_readLines_84 : decode M_A_readLines.2.1 84 = .ok (.iconst 1, 1) := by decide +kernel
theorem d_A_readLines_85 : decode M_A_readLines.2.1 85 = .ok (.iadd, 1) := by decide +kernel
theorem d_A_readLines_86 : decode M_A_readLines.2.1 86 = .ok (.istore_n 2, 1) := by decide +kernel
theorem d_A_readLines_87 : decode M_A_readLines.2.1 87 = .ok (.iinc 4 1, 3) := by decide +kernel
theorem d_A_readLines_90 : decode M_A_readLines.2.1 90 = .ok (.goto (-54), 3) := by decide +kernel
theorem d_A_readLines_93 : decode M_A_readLines.2.1 93 = .ok (.aload_n 1, 1) := by decide +kernel
theorem d_A_readLines_94 : decode M_A_readLines.2.1 94 = .ok (.areturn, 1) := by decide +kernel
theorem d_A_countLines_0 : decode M_A_countLines.2.1 0 = .ok (.iconst 0, 1) := by decide +kernel
theorem d_A_countLines_1 : decode M_A_countLines.2.1 1 = .ok (.istore_n 1, 1) := by decide +kernel
theorem d_A_countLines_2 : decode M_A_countLines.2.1 2 = .ok (.iconst 0, 1) := by decide +kernel
theorem d_A_countLines_3 : decode M_A_countLines.2.1 3 = .ok (.istore_n 2, 1) := by decide +kernel
theorem d_A_countLines_4 : decode M_A_countLines.2.1 4 = .ok (.iload_n 2, 1) := by decide +kernel
theorem d_A_countLines_5 : decode M_A_countLines.2.1 5 = .ok (.aload_n 0, 1) := by decide +kernel
theorem d_A_countLines_6 : decode M_A_countLines.2.1 6 = .ok (.arraylength, 1) := by decide +kernel
theorem d_A_countLines_7 : decode M_A_countLines.2.1 7 = .ok (.if_icmp .ge 20, 3) := by decide +kernel
theorem d_A_countLines_10 : decode M_A_countLines.2.1 10 = .ok (.aload_n 0, 1) := by decide +kernel
theorem d_A_countLines_11 : decode M_A_countLines.2.1 11 = .ok (.iload_n 2, 1) := by decide +kernel
theorem d_A_countLines_12 : decode M_A_countLines.2.1 12 = .ok (.baload, 1) := by decide +kernel
theorem d_A_countLines_13 : decode M_A_countLines.2.1 13 = .ok (.bipush 10, 2) := by decide +kernel
theorem d_A_countLines_15 : decode M_A_countLines.2.1 15 = .ok (.if_icmp .ne 6, 3) := by decide +kernel
theorem d_A_countLines_18 : decode M_A_countLines.2.1 18 = .ok (.iinc 1 1, 3) := by decide +kernel
theorem d_A_countLines_21 : decode M_A_countLines.2.1 21 = .ok (.iinc 2 1, 3) := by decide +kernel
theorem d_A_countLines_24 : decode M_A_countLines.2.1 24 = .ok (.goto (-20), 3) := by decide +kernel
theorem d_A_countLines_27 : decode M_A_countLines.2.1 27 = .ok (.iload_n 1, 1) := by decide +kernel
theorem d_A_countLines_28 : decode M_A_countLines.2.1 28 = .ok (.ireturn, 1) := by decide +kernel
theorem d_A_isWellFormed_0 : decode M_A_isWellFormed.2.1 0 = .ok (.aload_n 1, 1) := by decide +kernel
theorem d_A_isWellFormed_1 : decode M_A_isWellFormed.2.1 1 = .ok (.arraylength, 1) := by decide +kernel
theorem d_A_isWellFormed_2 : decode M_A_isWellFormed.2.1 2 = .ok (.ifCond .ne 5, 3) := by decide +kernel
theorem d_A_isWellFormed_5 : decode M_A_isWellFormed.2.1 5 = .ok (.iconst 0, 1) := by decide +kernel
theorem d_A_isWellFormed_6 : decode M_A_isWellFormed.2.1 6 = .ok (.ireturn, 1) := by decide +kernel
theorem d_A_isWellFormed_7 : decode M_A_isWellFormed.2.1 7 = .ok (.iconst 1, 1) := by decide +kernel
theorem d_A_isWellFormed_8 : decode M_A_isWellFormed.2.1 8 = .ok (.istore_n 2, 1) := by decide +kernel
theorem d_A_isWellFormed_9 : decode M_A_isWellFormed.2.1 9 = .ok (.iload_n 2, 1) := by decide +kernel
theorem d_A_isWellFormed_10 : decode M_A_isWellFormed.2.1 10 = .ok (.aload_n 1, 1) := by decide +kernel
theorem d_A_isWellFormed_11 : decode M_A_isWellFormed.2.1 11 = .ok (.arraylength, 1) := by decide +kernel
theorem d_A_isWellFormed_12 : decode M_A_isWellFormed.2.1 12 = .ok (.if_icmp .ge 25, 3) := by decide +kernel
theorem d_A_isWellFormed_15 : decode M_A_isWellFormed.2.1 15 = .ok (.aload_n 1, 1) := by decide +kernel
theorem d_A_isWellFormed_16 : decode M_A_isWellFormed.2.1 16 = .ok (.iload_n 2, 1) := by decide +kernel
theorem d_A_isWellFormed_17 : decode M_A_isWellFormed.2.1 17 = .ok (.aaload, 1) := by decide +kernel
theorem d_A_isWellFormed_18 : decode M_A_isWellFormed.2.1 18 = .ok (.aload_n 1, 1) := by decide +kernel
theorem d_A_isWellFormed_19 : decode M_A_isWellFormed.2.1 19 = .ok (.iload_n 2, 1) := by decide +kernel
theorem d_A_isWellFormed_20 : decode M_A_isWellFormed.2.1 20 = .ok (.iconst 1, 1) := by decide +kernel
theorem d_A_isWellFormed_21 : decode M_A_isWellFormed.2.1 21 = .ok (.isub, 1) := by decide +kernel
theorem d_A_isWellFormed_22 : decode M_A_isWellFormed.2.1 22 = .ok (.aaload, 1) := by decide +kernel
theorem d_A_isWellFormed_23 : decode M_A_isWellFormed.2.1 23 = .ok (.invokevirtual 77, 3) := by decide +kernel
theorem d_A_isWellFormed_26 : decode M_A_isWellFormed.2.1 26 = .ok (.ifCond .ne 5, 3) := by decide +kernel
theorem d_A_isWellFormed_29 : decode M_A_isWellFormed.2.1 29 = .ok (.iconst 0, 1) := by decide +kernel
theorem d_A_isWellFormed_30 : decode M_A_isWellFormed.2.1 30 = .ok (.ireturn, 1) := by decide +kernel
theorem d_A_isWellFormed_31 : decode M_A_isWellFormed.2.1 31 = .ok (.iinc 2 1, 3) := by decide +kernel
theorem d_A_isWellFormed_34 : decode M_A_isWellFormed.2.1 34 = .ok (.goto (-25), 3) := by decide +kernel
theorem d_A_isWellFormed_37 : decode M_A_isWellFormed.2.1 37 = .ok (.aload_n 1, 1) := by decide +kernel
theorem d_A_isWellFormed_38 : decode M_A_isWellFormed.2.1 38 = .ok (.aload_n 1, 1) := by decide +kernel
theorem d_A_isWellFormed_39 : decode M_A_isWellFormed.2.1 39 = .ok (.arraylength, 1) := by decide +kernel
theorem d_A_isWellFormed_40 : decode M_A_isWellFormed.2.1 40 = .ok (.iconst 1, 1) := by decide +kernel
theorem d_A_isWellFormed_41 : decode M_A_isWellFormed.2.1 41 = .ok (.isub, 1) := by decide +kernel
theorem d_A_isWellFormed_42 : decode M_A_isWellFormed.2.1 42 = .ok (.aaload, 1) := by decide +kernel
theorem d_A_isWellFormed_43 : decode M_A_isWellFormed.2.1 43 = .ok (.astore_n 2, 1) := by decide +kernel
theorem d_A_isWellFormed_44 : decode M_A_isWellFormed.2.1 44 = .ok (.bipush 9, 2) := by decide +kernel
theorem d_A_isWellFormed_46 : decode M_A_isWellFormed.2.1 46 = .ok (.istore_n 3, 1) := by decide +kernel
theorem d_A_isWellFormed_47 : decode M_A_isWellFormed.2.1 47 = .ok (.aload_n 2, 1) := by decide +kernel
theorem d_A_isWellFormed_48 : decode M_A_isWellFormed.2.1 48 = .ok (.getfield 81, 3) := by decide +kernel
theorem d_A_isWellFormed_51 : decode M_A_isWellFormed.2.1 51 = .ok (.bipush 90, 2) := by decide +kernel
theorem d_A_isWellFormed_53 : decode M_A_isWellFormed.2.1 53 = .ok (.if_icmp .ne 24, 3) := by decide +kernel
theorem d_A_isWellFormed_56 : decode M_A_isWellFormed.2.1 56 = .ok (.aload_n 2, 1) := by decide +kernel
theorem d_A_isWellFormed_57 : decode M_A_isWellFormed.2.1 57 = .ok (.getfield 84, 3) := by decide +kernel
theorem d_A_isWellFormed_60 : decode M_A_isWellFormed.2.1 60 = .ok (.bipush 7, 2) := by decide +kernel
theorem d_A_isWellFormed_62 : decode M_A_isWellFormed.2.1 62 = .ok (.aload_n 0, 1) := by decide +kernel
theorem d_A_isWellFormed_63 : decode M_A_isWellFormed.2.1 63 = .ok (.aload_n 0, 1) := by decide +kernel
theorem d_A_isWellFormed_64 : decode M_A_isWellFormed.2.1 64 = .ok (.arraylength, 1) := by decide +kernel
theorem d_A_isWellFormed_65 : decode M_A_isWellFormed.2.1 65 = .ok (.iload_n 3, 1) := by decide +kernel
theorem d_A_isWellFormed_66 : decode M_A_isWellFormed.2.1 66 = .ok (.isub, 1) := by decide +kernel
theorem d_A_isWellFormed_67 : decode M_A_isWellFormed.2.1 67 = .ok (.invokestatic 15, 3) := by decide +kernel
theorem d_A_isWellFormed_70 : decode M_A_isWellFormed.2.1 70 = .ok (.if_icmp .ne 7, 3) := by decide +kernel
theorem d_A_isWellFormed_73 : decode M_A_isWellFormed.2.1 73 = .ok (.iconst 1, 1) := by decide +kernel
theorem d_A_isWellFormed_74 : decode M_A_isWellFormed.2.1 74 = .ok (.goto 4, 3) := by decide +kernel
theorem d_A_isWellFormed_77 : decode M_A_isWellFormed.2.1 77 = .ok (.iconst 0, 1) := by decide +kernel
theorem d_A_isWellFormed_78 : decode M_A_isWellFormed.2.1 78 = .ok (.ireturn, 1) := by decide +kernel
theorem d_C_mayFollow_0 : decode M_C_mayFollow.2.1 0 = .ok (.aload_n 0, 1) := by decide +kernel
theorem d_C_mayFollow_1 : decode M_C_mayFollow.2.1 1 = .ok (.getfield 9, 3) := by decide +kernel
theorem d_C_mayFollow_4 : decode M_C_mayFollow.2.1 4 = .ok (.aload_n 1, 1) := by decide +kernel
theorem d_C_mayFollow_5 : decode M_C_mayFollow.2.1 5 = .ok (.getfield 9, 3) := by decide +kernel
theorem d_C_mayFollow_8 : decode M_C_mayFollow.2.1 8 = .ok (.if_icmp .eq 20, 3) := by decide +kernel
theorem d_C_mayFollow_11 : decode M_C_mayFollow.2.1 11 = .ok (.aload_n 0, 1) := by decide +kernel
theorem d_C_mayFollow_12 : decode M_C_mayFollow.2.1 12 = .ok (.getfield 9, 3) := by decide +kernel
theorem d_C_mayFollow_15 : decode M_C_mayFollow.2.1 15 = .ok (.aload_n 1, 1) := by decide +kernel
theorem d_C_mayFollow_16 : decode M_C_mayFollow.2.1 16 = .ok (.getfield 9, 3) := by decide +kernel
theorem d_C_mayFollow_19 : decode M_C_mayFollow.2.1 19 = .ok (.if_icmp .le 7, 3) := by decide +kernel
theorem d_C_mayFollow_22 : decode M_C_mayFollow.2.1 22 = .ok (.iconst 1, 1) := by decide +kernel
theorem d_C_mayFollow_23 : decode M_C_mayFollow.2.1 23 = .ok (.goto 4, 3) := by decide +kernel
theorem d_C_mayFollow_26 : decode M_C_mayFollow.2.1 26 = .ok (.iconst 0, 1) := by decide +kernel
theorem d_C_mayFollow_27 : decode M_C_mayFollow.2.1 27 = .ok (.ireturn, 1) := by decide +kernel
theorem d_C_mayFollow_28 : decode M_C_mayFollow.2.1 28 = .ok (.aload_n 0, 1) := by decide +kernel
theorem d_C_mayFollow_29 : decode M_C_mayFollow.2.1 29 = .ok (.getfield 9, 3) := by decide +kernel
theorem d_C_mayFollow_32 : decode M_C_mayFollow.2.1 32 = .ok (.lookupswitch 70 #[(70, 36), (77, 53), (84, 36)], 36) := by decide +kernel
theorem d_C_mayFollow_68 : decode M_C_mayFollow.2.1 68 = .ok (.aload_n 0, 1) := by decide +kernel
theorem d_C_mayFollow_69 : decode M_C_mayFollow.2.1 69 = .ok (.getfield 15, 3) := by decide +kernel
theorem d_C_mayFollow_72 : decode M_C_mayFollow.2.1 72 = .ok (.aload_n 1, 1) := by decide +kernel
theorem d_C_mayFollow_73 : decode M_C_mayFollow.2.1 73 = .ok (.getfield 15, 3) := by decide +kernel
theorem d_C_mayFollow_76 : decode M_C_mayFollow.2.1 76 = .ok (.if_icmp .le 7, 3) := by decide +kernel
theorem d_C_mayFollow_79 : decode M_C_mayFollow.2.1 79 = .ok (.iconst 1, 1) := by decide +kernel
theorem d_C_mayFollow_80 : decode M_C_mayFollow.2.1 80 = .ok (.goto 4, 3) := by decide +kernel
theorem d_C_mayFollow_83 : decode M_C_mayFollow.2.1 83 = .ok (.iconst 0, 1) := by decide +kernel
theorem d_C_mayFollow_84 : decode M_C_mayFollow.2.1 84 = .ok (.ireturn, 1) := by decide +kernel
theorem d_C_mayFollow_85 : decode M_C_mayFollow.2.1 85 = .ok (.aload_n 0, 1) := by decide +kernel
theorem d_C_mayFollow_86 : decode M_C_mayFollow.2.1 86 = .ok (.getfield 22, 3) := by decide +kernel
theorem d_C_mayFollow_89 : decode M_C_mayFollow.2.1 89 = .ok (.aload_n 1, 1) := by decide +kernel
theorem d_C_mayFollow_90 : decode M_C_mayFollow.2.1 90 = .ok (.getfield 22, 3) := by decide +kernel
theorem d_C_mayFollow_93 : decode M_C_mayFollow.2.1 93 = .ok (.if_icmp .le 7, 3) := by decide +kernel
theorem d_C_mayFollow_96 : decode M_C_mayFollow.2.1 96 = .ok (.iconst 1, 1) := by decide +kernel
theorem d_C_mayFollow_97 : decode M_C_mayFollow.2.1 97 = .ok (.goto 4, 3) := by decide +kernel
theorem d_C_mayFollow_100 : decode M_C_mayFollow.2.1 100 = .ok (.iconst 0, 1) := by decide +kernel
theorem d_C_mayFollow_101 : decode M_C_mayFollow.2.1 101 = .ok (.ireturn, 1) := by decide +kernel
theorem d_C_mayFollow_102 : decode M_C_mayFollow.2.1 102 = .ok (.iconst 0, 1) := by decide +kernel
theorem d_C_mayFollow_103 : decode M_C_mayFollow.2.1 103 = .ok (.ireturn, 1) := by decide +kernel

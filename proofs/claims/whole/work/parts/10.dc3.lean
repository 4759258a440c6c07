/-! Decode rows. Own work. -/
theorem d_G_countLoose_0 : decode M_G_countLoose.2.1 0 = .ok (.iconst 0, 1) := by decide +kernel
theorem d_G_countLoose_1 : decode M_G_countLoose.2.1 1 = .ok (.istore_n 1, 1) := by decide +kernel
theorem d_G_countLoose_2 : decode M_G_countLoose.2.1 2 = .ok (.iconst 0, 1) := by decide +kernel
theorem d_G_countLoose_3 : decode M_G_countLoose.2.1 3 = .ok (.istore_n 2, 1) := by decide +kernel
theorem d_G_countLoose_4 : decode M_G_countLoose.2.1 4 = .ok (.iload_n 2, 1) := by decide +kernel
theorem d_G_countLoose_5 : decode M_G_countLoose.2.1 5 = .ok (.aload_n 0, 1) := by decide +kernel
theorem d_G_countLoose_6 : decode M_G_countLoose.2.1 6 = .ok (.getfield 17, 3) := by decide +kernel
theorem d_G_countLoose_9 : decode M_G_countLoose.2.1 9 = .ok (.if_icmp .ge 25, 3) := by decide +kernel
theorem d_G_countLoose_12 : decode M_G_countLoose.2.1 12 = .ok (.aload_n 0, 1) := by decide +kernel
theorem d_G_countLoose_13 : decode M_G_countLoose.2.1 13 = .ok (.aload_n 0, 1) := by decide +kernel
theorem d_G_countLoose_14 : decode M_G_countLoose.2.1 14 = .ok (.getfield 11, 3) := by decide +kernel
theorem d_G_countLoose_17 : decode M_G_countLoose.2.1 17 = .ok (.iload_n 2, 1) := by decide +kernel
theorem d_G_countLoose_18 : decode M_G_countLoose.2.1 18 = .ok (.aaload, 1) := by decide +kernel
theorem d_G_countLoose_19 : decode M_G_countLoose.2.1 19 = .ok (.invokevirtual 124, 3) := by decide +kernel
theorem d_G_countLoose_22 : decode M_G_countLoose.2.1 22 = .ok (.ifCond .eq 6, 3) := by decide +kernel
theorem d_G_countLoose_25 : decode M_G_countLoose.2.1 25 = .ok (.iinc 1 1, 3) := by decide +kernel
theorem d_G_countLoose_28 : decode M_G_countLoose.2.1 28 = .ok (.iinc 2 1, 3) := by decide +kernel
theorem d_G_countLoose_31 : decode M_G_countLoose.2.1 31 = .ok (.goto (-27), 3) := by decide +kernel
theorem d_G_countLoose_34 : decode M_G_countLoose.2.1 34 = .ok (.iload_n 1, 1) := by decide +kernel
theorem d_G_countLoose_35 : decode M_G_countLoose.2.1 35 = .ok (.ireturn, 1) := by decide +kernel
theorem d_G_isLoose_0 : decode M_G_isLoose.2.1 0 = .ok (.aload_n 0, 1) := by decide +kernel
theorem d_G_isLoose_1 : decode M_G_isLoose.2.1 1 = .ok (.getfield 35, 3) := by decide +kernel
theorem d_G_isLoose_4 : decode M_G_isLoose.2.1 4 = .ok (.aload_n 1, 1) := by decide +kernel
theorem d_G_isLoose_5 : decode M_G_isLoose.2.1 5 = .ok (.getfield 45, 3) := by decide +kernel
theorem d_G_isLoose_8 : decode M_G_isLoose.2.1 8 = .ok (.invokevirtual 121, 3) := by decide +kernel
theorem d_G_isLoose_11 : decode M_G_isLoose.2.1 11 = .ok (.ifCond .ne 7, 3) := by decide +kernel
theorem d_G_isLoose_14 : decode M_G_isLoose.2.1 14 = .ok (.iconst 1, 1) := by decide +kernel
theorem d_G_isLoose_15 : decode M_G_isLoose.2.1 15 = .ok (.goto 4, 3) := by decide +kernel
theorem d_G_isLoose_18 : decode M_G_isLoose.2.1 18 = .ok (.iconst 0, 1) := by decide +kernel
theorem d_G_isLoose_19 : decode M_G_isLoose.2.1 19 = .ok (.ireturn, 1) := by decide +kernel
theorem d_N_contains_0 : decode M_N_contains.2.1 0 = .ok (.aload_n 0, 1) := by decide +kernel
theorem d_N_contains_1 : decode M_N_contains.2.1 1 = .ok (.iload_n 1, 1) := by decide +kernel
theorem d_N_contains_2 : decode M_N_contains.2.1 2 = .ok (.invokevirtual 17, 3) := by decide +kernel
theorem d_N_contains_5 : decode M_N_contains.2.1 5 = .ok (.istore_n 2, 1) := by decide +kernel
theorem d_N_contains_6 : decode M_N_contains.2.1 6 = .ok (.iload_n 2, 1) := by decide +kernel
theorem d_N_contains_7 : decode M_N_contains.2.1 7 = .ok (.aload_n 0, 1) := by decide +kernel
theorem d_N_contains_8 : decode M_N_contains.2.1 8 = .ok (.getfield 13, 3) := by decide +kernel
theorem d_N_contains_11 : decode M_N_contains.2.1 11 = .ok (.if_icmp .ge 17, 3) := by decide +kernel
theorem d_N_contains_14 : decode M_N_contains.2.1 14 = .ok (.aload_n 0, 1) := by decide +kernel
theorem d_N_contains_15 : decode M_N_contains.2.1 15 = .ok (.getfield 7, 3) := by decide +kernel
theorem d_N_contains_18 : decode M_N_contains.2.1 18 = .ok (.iload_n 2, 1) := by decide +kernel
theorem d_N_contains_19 : decode M_N_contains.2.1 19 = .ok (.iaload, 1) := by decide +kernel
theorem d_N_contains_20 : decode M_N_contains.2.1 20 = .ok (.iload_n 1, 1) := by decide +kernel
theorem d_N_contains_21 : decode M_N_contains.2.1 21 = .ok (.if_icmp .ne 7, 3) := by decide +kernel
theorem d_N_contains_24 : decode M_N_contains.2.1 24 = .ok (.iconst 1, 1) := by decide +kernel
theorem d_N_contains_25 : decode M_N_contains.2.1 25 = .ok (.goto 4, 3) := by decide +kernel
theorem d_N_contains_28 : decode M_N_contains.2.1 28 = .ok (.iconst 0, 1) := by decide +kernel
theorem d_N_contains_29 : decode M_N_contains.2.1 29 = .ok (.ireturn, 1) := by decide +kernel
theorem d_G_sendTo_0 : decode M_G_sendTo.2.1 0 = .ok (.iload_n 2, 1) := by decide +kernel
theorem d_G_sendTo_1 : decode M_G_sendTo.2.1 1 = .ok (.istore_n 3, 1) := by decide +kernel
theorem d_G_sendTo_2 : decode M_G_sendTo.2.1 2 = .ok (.iconst 0, 1) := by decide +kernel
theorem d_G_sendTo_3 : decode M_G_sendTo.2.1 3 = .ok (.istore 4, 2) := by decide +kernel
theorem d_G_sendTo_5 : decode M_G_sendTo.2.1 5 = .ok (.iconst 0, 1) := by decide +kernel
theorem d_G_sendTo_6 : decode M_G_sendTo.2.1 6 = .ok (.istore 5, 2) := by decide +kernel
theorem d_G_sendTo_8 : decode M_G_sendTo.2.1 8 = .ok (.iload 5, 2) := by decide +kernel
theorem d_G_sendTo_10 : decode M_G_sendTo.2.1 10 = .ok (.aload_n 0, 1) := by decide +kernel
theorem d_G_sendTo_11 : decode M_G_sendTo.2.1 11 = .ok (.getfield 17, 3) := by decide +kernel
theorem d_G_sendTo_14 : decode M_G_sendTo.2.1 14 = .ok (.if_icmp .ge 61, 3) := by decide +kernel
theorem d_G_sendTo_17 : decode M_G_sendTo.2.1 17 = .ok (.aload_n 0, 1) := by decide +kernel
theorem d_G_sendTo_18 : decode M_G_sendTo.2.1 18 = .ok (.getfield 11, 3) := by decide +kernel
theorem d_G_sendTo_21 : decode M_G_sendTo.2.1 21 = .ok (.iload 5, 2) := by decide +kernel
theorem d_G_sendTo_23 : decode M_G_sendTo.2.1 23 = .ok (.aaload, 1) := by decide +kernel
theorem d_G_sendTo_24 : decode M_G_sendTo.2.1 24 = .ok (.astore 6, 2) := by decide +kernel
theorem d_G_sendTo_26 : decode M_G_sendTo.2.1 26 = .ok (.aload_n 0, 1) := by decide +kernel
theorem d_G_sendTo_27 : decode M_G_sendTo.2.1 27 = .ok (.getfield 38, 3) := by decide +kernel
theorem d_G_sendTo_30 : decode M_G_sendTo.2.1 30 = .ok (.aload 6, 2) := by decide +kernel
theorem d_G_sendTo_32 : decode M_G_sendTo.2.1 32 = .ok (.getfield 45, 3) := by decide +kernel
theorem d_G_sendTo_35 : decode M_G_sendTo.2.1 35 = .ok (.invokevirtual 121, 3) := by decide +kernel
theorem d_G_sendTo_38 : decode M_G_sendTo.2.1 38 = .ok (.ifCond .eq 31, 3) := by decide +kernel
theorem d_G_sendTo_41 : decode M_G_sendTo.2.1 41 = .ok (.aload 6, 2) := by decide +kernel
theorem d_G_sendTo_43 : decode M_G_sendTo.2.1 43 = .ok (.getfield 113, 3) := by decide +kernel
theorem d_G_sendTo_46 : decode M_G_sendTo.2.1 46 = .ok (.arraylength, 1) := by decide +kernel
theorem d_G_sendTo_47 : decode M_G_sendTo.2.1 47 = .ok (.iload_n 3, 1) := by decide +kernel
theorem d_G_sendTo_48 : decode M_G_sendTo.2.1 48 = .ok (.if_icmp .gt 21, 3) := by decide +kernel
theorem d_G_sendTo_51 : decode M_G_sendTo.2.1 51 = .ok (.iload_n 3, 1) := by decide +kernel
theorem d_G_sendTo_52 : decode M_G_sendTo.2.1 52 = .ok (.aload 6, 2) := by decide +kernel
theorem d_G_sendTo_54 : decode M_G_sendTo.2.1 54 = .ok (.getfield 113, 3) := by decide +kernel
theorem d_G_sendTo_57 : decode M_G_sendTo.2.1 57 = .ok (.arraylength, 1) := by decide +kernel
theorem d_G_sendTo_58 : decode M_G_sendTo.2.1 58 = .ok (.isub, 1) := by decide +kernel
theorem d_G_sendTo_59 : decode M_G_sendTo.2.1 59 = .ok (.istore_n 3, 1) := by decide +kernel
theorem d_G_sendTo_60 : decode M_G_sendTo.2.1 60 = .ok (.iinc 4 1, 3) := by decide +kernel
theorem d_G_sendTo_63 : decode M_G_sendTo.2.1 63 = .ok (.aload_n 1, 1) := by decide +kernel
theorem d_G_sendTo_64 : decode M_G_sendTo.2.1 64 = .ok (.aload 6, 2) := by decide +kernel
theorem d_G_sendTo_66 : decode M_G_sendTo.2.1 66 = .ok (.invokevirtual 157, 3) := by decide +kernel
theorem d_G_sendTo_69 : decode M_G_sendTo.2.1 69 = .ok (.iinc 5 1, 3) := by decide +kernel
theorem d_G_sendTo_72 : decode M_G_sendTo.2.1 72 = .ok (.goto (-64), 3) := by decide +kernel
theorem d_G_sendTo_75 : decode M_G_sendTo.2.1 75 = .ok (.iconst 0, 1) := by decide +kernel
theorem d_G_sendTo_76 : decode M_G_sendTo.2.1 76 = .ok (.istore 5, 2) := by decide +kernel
theorem d_G_sendTo_78 : decode M_G_sendTo.2.1 78 = .ok (.iload 5, 2) := by decide +kernel
theorem d_G_sendTo_80 : decode M_G_sendTo.2.1 80 = .ok (.aload_n 0, 1) := by decide +kernel
theorem d_G_sendTo_81 : decode M_G_sendTo.2.1 81 = .ok (.getfield 17, 3) := by decide +kernel
theorem d_G_sendTo_84 : decode M_G_sendTo.2.1 84 = .ok (.if_icmp .ge 37, 3) := by decide +kernel
theorem d_G_sendTo_87 : decode M_G_sendTo.2.1 87 = .ok (.aload_n 0, 1) := by decide +kernel
theorem d_G_sendTo_88 : decode M_G_sendTo.2.1 88 = .ok (.aload_n 0, 1) := by decide +kernel
theorem d_G_sendTo_89 : decode M_G_sendTo.2.1 89 = .ok (.getfield 11, 3) := by decide +kernel
theorem d_G_sendTo_92 : decode M_G_sendTo.2.1 92 = .ok (.iload 5, 2) := by decide +kernel
theorem d_G_sendTo_94 : decode M_G_sendTo.2.1 94 = .ok (.aaload, 1) := by decide +kernel
theorem d_G_sendTo_95 : decode M_G_sendTo.2.1 95 = .ok (.invokevirtual 124, 3) := by decide +kernel
theorem d_G_sendTo_98 : decode M_G_sendTo.2.1 98 = .ok (.ifCond .eq 17, 3) := by decide +kernel
theorem d_G_sendTo_101 : decode M_G_sendTo.2.1 101 = .ok (.aload_n 1, 1) := by decide +kernel
theorem d_G_sendTo_102 : decode M_G_sendTo.2.1 102 = .ok (.aload_n 0, 1) := by decide +kernel
theorem d_G_sendTo_103 : decode M_G_sendTo.2.1 103 = .ok (.getfield 11, 3) := by decide +kernel
theorem d_G_sendTo_106 : decode M_G_sendTo.2.1 106 = .ok (.iload 5, 2) := by decide +kernel
theorem d_G_sendTo_108 : decode M_G_sendTo.2.1 108 = .ok (.aaload, 1) := by decide +kernel
theorem d_G_sendTo_109 : decode M_G_sendTo.2.1 109 = .ok (.getfield 45, 3) := by decide +kernel
theorem d_G_sendTo_112 : decode M_G_sendTo.2.1 112 = .ok (.invokevirtual 89, 3) := by decide +kernel
theorem d_G_sendTo_115 : decode M_G_sendTo.2.1 115 = .ok (.iinc 5 1, 3) := by decide +kernel
theorem d_G_sendTo_118 : decode M_G_sendTo.2.1 118 = .ok (.goto (-40), 3) := by decide +kernel
theorem d_G_sendTo_121 : decode M_G_sendTo.2.1 121 = .ok (.aload_n 1, 1) := by decide +kernel
theorem d_G_sendTo_122 : decode M_G_sendTo.2.1 122 = .ok (.getfield 38, 3) := by decide +kernel
theorem d_G_sendTo_125 : decode M_G_sendTo.2.1 125 = .ok (.aload_n 0, 1) := by decide +kernel
theorem d_G_sendTo_126 : decode M_G_sendTo.2.1 126 = .ok (.getfield 31, 3) := by decide +kernel
theorem d_G_sendTo_129 : decode M_G_sendTo.2.1 129 = .ok (.invokevirtual 160, 3) := by decide +kernel
theorem d_G_sendTo_132 : decode M_G_sendTo.2.1 132 = .ok (.iload 4, 2) := by decide +kernel
theorem d_G_sendTo_134 : decode M_G_sendTo.2.1 134 = .ok (.ireturn, 1) := by decide +kernel
theorem d_N_copyFrom_0 : decode M_N_copyFrom.2.1 0 = .ok (.aload_n 0, 1) := by decide +kernel
theorem d_N_copyFrom_1 : decode M_N_copyFrom.2.1 1 = .ok (.getfield 7, 3) := by decide +kernel
theorem d_N_copyFrom_4 : decode M_N_copyFrom.2.1 4 = .ok (.arraylength, 1) := by decide +kernel
theorem d_N_copyFrom_5 : decode M_N_copyFrom.2.1 5 = .ok (.aload_n 1, 1) := by decide +kernel
theorem d_N_copyFrom_6 : decode M_N_copyFrom.2.1 6 = .ok (.getfield 13, 3) := by decide +kernel
theorem d_N_copyFrom_9 : decode M_N_copyFrom.2.1 9 = .ok (.if_icmp .ge 14, 3) := by decide +kernel
theorem d_N_copyFrom_12 : decode M_N_copyFrom.2.1 12 = .ok (.aload_n 0, 1) := by decide +kernel
theorem d_N_copyFrom_13 : decode M_N_copyFrom.2.1 13 = .ok (.aload_n 1, 1) := by decide +kernel
theorem d_N_copyFrom_14 : decode M_N_copyFrom.2.1 14 = .ok (.getfield 7, 3) := by decide +kernel
theorem d_N_copyFrom_17 : decode M_N_copyFrom.2.1 17 = .ok (.arraylength, 1) := by decide +kernel
theorem d_N_copyFrom_18 : decode M_N_copyFrom.2.1 18 = .ok (.newarray .int, 2) := by decide +kernel
theorem d_N_copyFrom_20 : decode M_N_copyFrom.2.1 20 = .ok (.putfield 7, 3) := by decide +kernel
theorem d_N_copyFrom_23 : decode M_N_copyFrom.2.1 23 = .ok (.aload_n 1, 1) := by decide +kernel
theorem d_N_copyFrom_24 : decode M_N_copyFrom.2.1 24 = .ok (.getfield 7, 3) := by decide +kernel
theorem d_N_copyFrom_27 : decode M_N_copyFrom.2.1 27 = .ok (.iconst 0, 1) := by decide +kernel
theorem d_N_copyFrom_28 : decode M_N_copyFrom.2.1 28 = .ok (.aload_n 0, 1) := by decide +kernel
theorem d_N_copyFrom_29 : decode M_N_copyFrom.2.1 29 = .ok (.getfield 7, 3) := by decide +kernel
theorem d_N_copyFrom_32 : decode M_N_copyFrom.2.1 32 = .ok (.iconst 0, 1) := by decide +kernel
theorem d_N_copyFrom_33 : decode M_N_copyFrom.2.1 33 = .ok (.aload_n 1, 1) := by decide +kernel
theorem d_N_copyFrom_34 : decode M_N_copyFrom.2.1 34 = .ok (.getfield 13, 3) := by decide +kernel
theorem d_N_copyFrom_37 : decode M_N_copyFrom.2.1 37 = .ok (.invokestatic 27, 3) := by decide +kernel
theorem d_N_copyFrom_40 : decode M_N_copyFrom.2.1 40 = .ok (.aload_n 0, 1) := by decide +kernel
theorem d_N_copyFrom_41 : decode M_N_copyFrom.2.1 41 = .ok (.aload_n 1, 1) := by decide +kernel
theorem d_N_copyFrom_42 : decode M_N_copyFrom.2.1 42 = .ok (.getfield 13, 3) := by decide +kernel
theorem d_N_copyFrom_45 : decode M_N_copyFrom.2.1 45 = .ok (.putfield 13, 3) := by decide +kernel
theorem d_N_copyFrom_48 : decode M_N_copyFrom.2.1 48 = .ok (.return_, 1) := by decide +kernel
theorem d_B_held_0 : decode M_B_held.2.1 0 = .ok (.aload_n 0, 1) := by decide +kernel
theorem d_B_held_1 : decode M_B_held.2.1 1 = .ok (.iload_n 1, 1) := by decide +kernel
theorem d_B_held_2 : decode M_B_held.2.1 2 = .ok (.invokevirtual 56, 3) := by decide +kernel
theorem d_B_held_5 : decode M_B_held.2.1 5 = .ok (.astore_n 2, 1) := by decide +kernel
theorem d_B_held_6 : decode M_B_held.2.1 6 = .ok (.aload_n 2, 1) := by decide +kernel
theorem d_B_held_7 : decode M_B_held.2.1 7 = .ok (.ifnonnull 7, 3) := by decide +kernel
theorem d_B_held_10 : decode M_B_held.2.1 10 = .ok (.iconst (-1), 1) := by decide +kernel
theorem d_B_held_11 : decode M_B_held.2.1 11 = .ok (.goto 7, 3) := by decide +kernel
theorem d_B_held_14 : decode M_B_held.2.1 14 = .ok (.aload_n 2, 1) := by decide +kernel
theorem d_B_held_15 : decode M_B_held.2.1 15 = .ok (.getfield 102, 3) := by decide +kernel
theorem d_B_held_18 : decode M_B_held.2.1 18 = .ok (.ireturn, 1) := by decide +kernel
theorem d_B_name_0 : decode M_B_name.2.1 0 = .ok (.aload_n 0, 1) := by decide +kernel
theorem d_B_name_1 : decode M_B_name.2.1 1 = .ok (.iload_n 1, 1) := by decide +kernel
theorem d_B_name_2 : decode M_B_name.2.1 2 = .ok (.invokevirtual 56, 3) := by decide +kernel
theorem d_B_name_5 : decode M_B_name.2.1 5 = .ok (.astore_n 3, 1) := by decide +kernel
theorem d_B_name_6 : decode M_B_name.2.1 6 = .ok (.aload_n 3, 1) := by decide +kernel
theorem d_B_name_7 : decode M_B_name.2.1 7 = .ok (.ifnull 15, 3) := by decide +kernel
theorem d_B_name_10 : decode M_B_name.2.1 10 = .ok (.iload_n 2, 1) := by decide +kernel
theorem d_B_name_11 : decode M_B_name.2.1 11 = .ok (.ifCond .lt 11, 3) := by decide +kernel
theorem d_B_name_14 : decode M_B_name.2.1 14 = .ok (.iload_n 2, 1) := by decide +kernel
theorem d_B_name_15 : decode M_B_name.2.1 15 = .ok (.aload_n 3, 1) := by decide +kernel
theorem d_B_name_16 : decode M_B_name.2.1 16 = .ok (.getfield 102, 3) := by decide +kernel
theorem d_B_name_19 : decode M_B_name.2.1 19 = .ok (.if_icmp .lt 7, 3) := by decide +kernel
theorem d_B_name_22 : decode M_B_name.2.1 22 = .ok (.iconst (-1), 1) := by decide +kernel
theorem d_B_name_23 : decode M_B_name.2.1 23 = .ok (.goto 12, 3) := by decide +kernel
theorem d_B_name_26 : decode M_B_name.2.1 26 = .ok (.aload_n 3, 1) := by decide +kernel
theorem d_B_name_27 : decode M_B_name.2.1 27 = .ok (.getfield 105, 3) := by decide +kernel
theorem d_B_name_30 : decode M_B_name.2.1 30 = .ok (.iload_n 2, 1) := by decide +kernel
theorem d_B_name_31 : decode M_B_name.2.1 31 = .ok (.aaload, 1) := by decide +kernel
theorem d_B_name_32 : decode M_B_name.2.1 32 = .ok (.getfield 109, 3) := by decide +kernel
theorem d_B_name_35 : decode M_B_name.2.1 35 = .ok (.ireturn, 1) := by decide +kernel
theorem d_B_octet_0 : decode M_B_octet.2.1 0 = .ok (.aload_n 0, 1) := by decide +kernel
theorem d_B_octet_1 : decode M_B_octet.2.1 1 = .ok (.iload_n 1, 1) := by decide +kernel
theorem d_B_octet_2 : decode M_B_octet.2.1 2 = .ok (.iload_n 2, 1) := by decide +kernel
theorem d_B_octet_3 : decode M_B_octet.2.1 3 = .ok (.invokevirtual 112, 3) := by decide +kernel
theorem d_B_octet_6 : decode M_B_octet.2.1 6 = .ok (.astore 4, 2) := by decide +kernel
theorem d_B_octet_8 : decode M_B_octet.2.1 8 = .ok (.aload 4, 2) := by decide +kernel
theorem d_B_octet_10 : decode M_B_octet.2.1 10 = .ok (.ifnull 17, 3) := by decide +kernel
theorem d_B_octet_13 : decode M_B_octet.2.1 13 = .ok (.iload_n 3, 1) := by decide +kernel
theorem d_B_octet_14 : decode M_B_octet.2.1 14 = .ok (.ifCond .lt 13, 3) := by decide +kernel
theorem d_B_octet_17 : decode M_B_octet.2.1 17 = .ok (.iload_n 3, 1) := by decide +kernel
theorem d_B_octet_18 : decode M_B_octet.2.1 18 = .ok (.aload 4, 2) := by decide +kernel
theorem d_B_octet_20 : decode M_B_octet.2.1 20 = .ok (.getfield 116, 3) := by decide +kernel
theorem d_B_octet_23 : decode M_B_octet.2.1 23 = .ok (.arraylength, 1) := by decide +kernel
theorem d_B_octet_24 : decode M_B_octet.2.1 24 = .ok (.if_icmp .lt 5, 3) := by decide +kernel
theorem d_B_octet_27 : decode M_B_octet.2.1 27 = .ok (.iconst (-1), 1) := by decide +kernel
theorem d_B_octet_28 : decode M_B_octet.2.1 28 = .ok (.ireturn, 1) := by decide +kernel
theorem d_B_octet_29 : decode M_B_octet.2.1 29 = .ok (.aload 4, 2) := by decide +kernel
theorem d_B_octet_31 : decode M_B_octet.2.1 31 = .ok (.getfield 116, 3) := by decide +kernel
theorem d_B_octet_34 : decode M_B_octet.2.1 34 = .ok (.iload_n 3, 1) := by decide +kernel
theorem d_B_octet_35 : decode M_B_octet.2.1 35 = .ok (.baload, 1) := by decide +kernel
theorem d_B_octet_36 : decode M_B_octet.2.1 36 = .ok (.sipush 255, 3) := by decide +kernel
theorem d_B_octet_39 : decode M_B_octet.2.1 39 = .ok (.iand, 1) := by decide +kernel
theorem d_B_octet_40 : decode M_B_octet.2.1 40 = .ok (.ireturn, 1) := by decide +kernel
theorem d_B_artifactOf_0 : decode M_B_artifactOf.2.1 0 = .ok (.aload_n 0, 1) := by decide +kernel
theorem d_B_artifactOf_1 : decode M_B_artifactOf.2.1 1 = .ok (.iload_n 1, 1) := by decide +kernel
theorem d_B_artifactOf_2 : decode M_B_artifactOf.2.1 2 = .ok (.invokevirtual 56, 3) := by decide +kernel
theorem d_B_artifactOf_5 : decode M_B_artifactOf.2.1 5 = .ok (.astore_n 3, 1) := by decide +kernel
theorem d_B_artifactOf_6 : decode M_B_artifactOf.2.1 6 = .ok (.aload_n 3, 1) := by decide +kernel
theorem d_B_artifactOf_7 : decode M_B_artifactOf.2.1 7 = .ok (.ifnonnull 7, 3) := by decide +kernel
theorem d_B_artifactOf_10 : decode M_B_artifactOf.2.1 10 = .ok (.aconst_null, 1) := by decide +kernel
theorem d_B_artifactOf_11 : decode M_B_artifactOf.2.1 11 = .ok (.goto 8, 3) := by decide +kernel
theorem d_B_artifactOf_14 : decode M_B_artifactOf.2.1 14 = .ok (.aload_n 3, 1) := by decide +kernel
theorem d_B_artifactOf_15 : decode M_B_artifactOf.2.1 15 = .ok (.iload_n 2, 1) := by decide +kernel
theorem d_B_artifactOf_16 : decode M_B_artifactOf.2.1 16 = .ok (.invokevirtual 162, 3) := by decide +kernel
theorem d_B_artifactOf_19 : decode M_B_artifactOf.2.1 19 = .ok (.areturn, 1) := by decide +kernel
theorem d_B_kind_0 : decode M_B_kind.2.1 0 = .ok (.aload_n 0, 1) := by decide +kernel
theorem d_B_kind_1 : decode M_B_kind.2.1 1 = .ok (.iload_n 1, 1) := by decide +kernel
theorem d_B_kind_2 : decode M_B_kind.2.1 2 = .ok (.iload_n 2, 1) := by decide +kernel
theorem d_B_kind_3 : decode M_B_kind.2.1 3 = .ok (.invokevirtual 112, 3) := by decide +kernel
theorem d_B_kind_6 : decode M_B_kind.2.1 6 = .ok (.astore_n 3, 1) := by decide +kernel
theorem d_B_kind_7 : decode M_B_kind.2.1 7 = .ok (.aload_n 3, 1) := by decide +kernel
theorem d_B_kind_8 : decode M_B_kind.2.1 8 = .ok (.ifnonnull 7, 3) := by decide +kernel
theorem d_B_kind_11 : decode M_B_kind.2.1 11 = .ok (.iconst (-1), 1) := by decide +kernel
theorem d_B_kind_12 : decode M_B_kind.2.1 12 = .ok (.goto 7, 3) := by decide +kernel
theorem d_B_kind_15 : decode M_B_kind.2.1 15 = .ok (.aload_n 3, 1) := by decide +kernel
theorem d_B_kind_16 : decode M_B_kind.2.1 16 = .ok (.getfield 117, 3) := by decide +kernel
theorem d_B_kind_19 : decode M_B_kind.2.1 19 = .ok (.ireturn, 1) := by decide +kernel
theorem d_B_wanted_0 : decode M_B_wanted.2.1 0 = .ok (.aload_n 0, 1) := by decide +kernel
theorem d_B_wanted_1 : decode M_B_wanted.2.1 1 = .ok (.iload_n 1, 1) := by decide +kernel
theorem d_B_wanted_2 : decode M_B_wanted.2.1 2 = .ok (.invokevirtual 56, 3) := by decide +kernel
theorem d_B_wanted_5 : decode M_B_wanted.2.1 5 = .ok (.astore_n 2, 1) := by decide +kernel
theorem d_B_wanted_6 : decode M_B_wanted.2.1 6 = .ok (.aload_n 2, 1) := by decide +kernel
theorem d_B_wanted_7 : decode M_B_wanted.2.1 7 = .ok (.ifnonnull 7, 3) := by decide +kernel
theorem d_B_wanted_10 : decode M_B_wanted.2.1 10 = .ok (.iconst (-1), 1) := by decide +kernel
theorem d_B_wanted_11 : decode M_B_wanted.2.1 11 = .ok (.goto 10, 3) := by decide +kernel
theorem d_B_wanted_14 : decode M_B_wanted.2.1 14 = .ok (.aload_n 2, 1) := by decide +kernel
theorem d_B_wanted_15 : decode M_B_wanted.2.1 15 = .ok (.getfield 120, 3) := by decide +kernel
theorem d_B_wanted_18 : decode M_B_wanted.2.1 18 = .ok (.getfield 124, 3) := by decide +kernel
theorem d_B_wanted_21 : decode M_B_wanted.2.1 21 = .ok (.ireturn, 1) := by decide +kernel
theorem d_B_wants_0 : decode M_B_wants.2.1 0 = .ok (.aload_n 0, 1) := by decide +kernel
theorem d_B_wants_1 : decode M_B_wants.2.1 1 = .ok (.iload_n 1, 1) := by decide +kernel
theorem d_B_wants_2 : decode M_B_wants.2.1 2 = .ok (.invokevirtual 56, 3) := by decide +kernel
theorem d_B_wants_5 : decode M_B_wants.2.1 5 = .ok (.astore_n 3, 1) := by decide +kernel
theorem d_B_wants_6 : decode M_B_wants.2.1 6 = .ok (.aload_n 3, 1) := by decide +kernel
theorem d_B_wants_7 : decode M_B_wants.2.1 7 = .ok (.ifnull 18, 3) := by decide +kernel
theorem d_B_wants_10 : decode M_B_wants.2.1 10 = .ok (.aload_n 3, 1) := by decide +kernel
theorem d_B_wants_11 : decode M_B_wants.2.1 11 = .ok (.getfield 120, 3) := by decide +kernel
theorem d_B_wants_14 : decode M_B_wants.2.1 14 = .ok (.iload_n 2, 1) := by decide +kernel
theorem d_B_wants_15 : decode M_B_wants.2.1 15 = .ok (.invokevirtual 129, 3) := by decide +kernel
theorem d_B_wants_18 : decode M_B_wants.2.1 18 = .ok (.ifCond .eq 7, 3) := by decide +kernel
theorem d_B_wants_21 : decode M_B_wants.2.1 21 = .ok (.iconst 1, 1) := by decide +kernel
theorem d_B_wants_22 : decode M_B_wants.2.1 22 = .ok (.goto 4, 3) := by decide +kernel
theorem d_B_wants_25 : decode M_B_wants.2.1 25 = .ok (.iconst 0, 1) := by decide +kernel
theorem d_B_wants_26 : decode M_B_wants.2.1 26 = .ok (.ireturn, 1) := by decide +kernel
theorem d_B_checkIns_0 : decode M_B_checkIns.2.1 0 = .ok (.aload_n 0, 1) := by decide +kernel
theorem d_B_checkIns_1 : decode M_B_checkIns.2.1 1 = .ok (.iload_n 1, 1) := by decide +kernel
theorem d_B_checkIns_2 : decode M_B_checkIns.2.1 2 = .ok (.invokevirtual 56, 3) := by decide +kernel
theorem d_B_checkIns_5 : decode M_B_checkIns.2.1 5 = .ok (.astore_n 2, 1) := by decide +kernel
theorem d_B_checkIns_6 : decode M_B_checkIns.2.1 6 = .ok (.aload_n 2, 1) := by decide +kernel
theorem d_B_checkIns_7 : decode M_B_checkIns.2.1 7 = .ok (.ifnonnull 7, 3) := by decide +kernel
theorem d_B_checkIns_10 : decode M_B_checkIns.2.1 10 = .ok (.iconst (-1), 1) := by decide +kernel
theorem d_B_checkIns_11 : decode M_B_checkIns.2.1 11 = .ok (.goto 10, 3) := by decide +kernel
theorem d_B_checkIns_14 : decode M_B_checkIns.2.1 14 = .ok (.aload_n 2, 1) := by decide +kernel
theorem d_B_checkIns_15 : decode M_B_checkIns.2.1 15 = .ok (.getfield 132, 3) := by decide +kernel
theorem d_B_checkIns_18 : decode M_B_checkIns.2.1 18 = .ok (.getfield 136, 3) := by decide +kernel
theorem d_B_checkIns_21 : decode M_B_checkIns.2.1 21 = .ok (.ireturn, 1) := by decide +kernel
theorem d_B_timeline_0 : decode M_B_timeline.2.1 0 = .ok (.aload_n 0, 1) := by decide +kernel
theorem d_B_timeline_1 : decode M_B_timeline.2.1 1 = .ok (.iload_n 1, 1) := by decide +kernel
theorem d_B_timeline_2 : decode M_B_timeline.2.1 2 = .ok (.invokevirtual 56, 3) := by decide +kernel
theorem d_B_timeline_5 : decode M_B_timeline.2.1 5 = .ok (.astore_n 3, 1) := by decide +kernel
theorem d_B_timeline_6 : decode M_B_timeline.2.1 6 = .ok (.aload_n 3, 1) := by decide +kernel
theorem d_B_timeline_7 : decode M_B_timeline.2.1 7 = .ok (.ifnonnull 7, 3) := by decide +kernel
theorem d_B_timeline_10 : decode M_B_timeline.2.1 10 = .ok (.iconst (-1), 1) := by decide +kernel
theorem d_B_timeline_11 : decode M_B_timeline.2.1 11 = .ok (.goto 11, 3) := by decide +kernel
theorem d_B_timeline_14 : decode M_B_timeline.2.1 14 = .ok (.aload_n 3, 1) := by decide +kernel
theorem d_B_timeline_15 : decode M_B_timeline.2.1 15 = .ok (.getfield 132, 3) := by decide +kernel
theorem d_B_timeline_18 : decode M_B_timeline.2.1 18 = .ok (.iload_n 2, 1) := by decide +kernel
theorem d_B_timeline_19 : decode M_B_timeline.2.1 19 = .ok (.invokevirtual 139, 3) := by decide +kernel
theorem d_B_timeline_22 : decode M_B_timeline.2.1 22 = .ok (.ireturn, 1) := by decide +kernel
theorem d_H_nameAt_0 : decode M_H_nameAt.2.1 0 = .ok (.iload_n 1, 1) := by decide +kernel
theorem d_H_nameAt_1 : decode M_H_nameAt.2.1 1 = .ok (.ifCond .lt 11, 3) := by decide +kernel
theorem d_H_nameAt_4 : decode M_H_nameAt.2.1 4 = .ok (.iload_n 1, 1) := by decide +kernel
theorem d_H_nameAt_5 : decode M_H_nameAt.2.1 5 = .ok (.aload_n 0, 1) := by decide +kernel
theorem d_H_nameAt_6 : decode M_H_nameAt.2.1 6 = .ok (.getfield 17, 3) := by decide +kernel
theorem d_H_nameAt_9 : decode M_H_nameAt.2.1 9 = .ok (.if_icmp .lt 7, 3) := by decide +kernel
theorem d_H_nameAt_12 : decode M_H_nameAt.2.1 12 = .ok (.iconst (-1), 1) := by decide +kernel
theorem d_H_nameAt_13 : decode M_H_nameAt.2.1 13 = .ok (.goto 12, 3) := by decide +kernel
theorem d_H_nameAt_16 : decode M_H_nameAt.2.1 16 = .ok (.aload_n 0, 1) := by decide +kernel
theorem d_H_nameAt_17 : decode M_H_nameAt.2.1 17 = .ok (.getfield 11, 3) := by decide +kernel
theorem d_H_nameAt_20 : decode M_H_nameAt.2.1 20 = .ok (.iload_n 1, 1) := by decide +kernel
theorem d_H_nameAt_21 : decode M_H_nameAt.2.1 21 = .ok (.aaload, 1) := by decide +kernel
theorem d_H_nameAt_22 : decode M_H_nameAt.2.1 22 = .ok (.getfield 25, 3) := by decide +kernel
theorem d_H_nameAt_25 : decode M_H_nameAt.2.1 25 = .ok (.ireturn, 1) := by decide +kernel
theorem d_B_children_0 : decode M_B_children.2.1 0 = .ok (.aload_n 0, 1) := by decide +kernel
theorem d_B_children_1 : decode M_B_children.2.1 1 = .ok (.iload_n 1, 1) := by decide +kernel
theorem d_B_children_2 : decode M_B_children.2.1 2 = .ok (.invokevirtual 56, 3) := by decide +kernel
theorem d_B_children_5 : decode M_B_children.2.1 5 = .ok (.astore_n 3, 1) := by decide +kernel
theorem d_B_children_6 : decode M_B_children.2.1 6 = .ok (.aload_n 3, 1) := by decide +kernel
theorem d_B_children_7 : decode M_B_children.2.1 7 = .ok (.ifnonnull 7, 3) := by decide +kernel
theorem d_B_children_10 : decode M_B_children.2.1 10 = .ok (.iconst (-1), 1) := by decide +kernel
theorem d_B_children_11 : decode M_B_children.2.1 11 = .ok (.goto 11, 3) := by decide +kernel
theorem d_B_children_14 : decode M_B_children.2.1 14 = .ok (.aload_n 3, 1) := by decide +kernel
theorem d_B_children_15 : decode M_B_children.2.1 15 = .ok (.getfield 132, 3) := by decide +kernel
theorem d_B_children_18 : decode M_B_children.2.1 18 = .ok (.iload_n 2, 1) := by decide +kernel
theorem d_B_children_19 : decode M_B_children.2.1 19 = .ok (.invokevirtual 143, 3) := by decide +kernel
theorem d_B_children_22 : decode M_B_children.2.1 22 = .ok (.ireturn, 1) := by decide +kernel
theorem d_H_countChildren_0 : decode M_H_countChildren.2.1 0 = .ok (.iconst 0, 1) := by decide +kernel
theorem d_H_countChildren_1 : decode M_H_countChildren.2.1 1 = .ok (.istore_n 2, 1) := by decide +kernel
theorem d_H_countChildren_2 : decode M_H_countChildren.2.1 2 = .ok (.iconst 0, 1) := by decide +kernel
theorem d_H_countChildren_3 : decode M_H_countChildren.2.1 3 = .ok (.istore_n 3, 1) := by decide +kernel
theorem d_H_countChildren_4 : decode M_H_countChildren.2.1 4 = .ok (.iload_n 3, 1) := by decide +kernel
theorem d_H_countChildren_5 : decode M_H_countChildren.2.1 5 = .ok (.aload_n 0, 1) := by decide +kernel
theorem d_H_countChildren_6 : decode M_H_countChildren.2.1 6 = .ok (.getfield 17, 3) := by decide +kernel
theorem d_H_countChildren_9 : decode M_H_countChildren.2.1 9 = .ok (.if_icmp .ge 25, 3) := by decide +kernel
theorem d_H_countChildren_12 : decode M_H_countChildren.2.1 12 = .ok (.aload_n 0, 1) := by decide +kernel
theorem d_H_countChildren_13 : decode M_H_countChildren.2.1 13 = .ok (.getfield 11, 3) := by decide +kernel
theorem d_H_countChildren_16 : decode M_H_countChildren.2.1 16 = .ok (.iload_n 3, 1) := by decide +kernel
theorem d_H_countChildren_17 : decode M_H_countChildren.2.1 17 = .ok (.aaload, 1) := by decide +kernel
theorem d_H_countChildren_18 : decode M_H_countChildren.2.1 18 = .ok (.iload_n 1, 1) := by decide +kernel
theorem d_H_countChildren_19 : decode M_H_countChildren.2.1 19 = .ok (.invokevirtual 28, 3) := by decide +kernel
theorem d_H_countChildren_22 : decode M_H_countChildren.2.1 22 = .ok (.ifCond .eq 6, 3) := by decide +kernel
theorem d_H_countChildren_25 : decode M_H_countChildren.2.1 25 = .ok (.iinc 2 1, 3) := by decide +kernel
theorem d_H_countChildren_28 : decode M_H_countChildren.2.1 28 = .ok (.iinc 3 1, 3) := by decide +kernel
theorem d_H_countChildren_31 : decode M_H_countChildren.2.1 31 = .ok (.goto (-27), 3) := by decide +kernel
theorem d_H_countChildren_34 : decode M_H_countChildren.2.1 34 = .ok (.iload_n 2, 1) := by decide +kernel
theorem d_H_countChildren_35 : decode M_H_countChildren.2.1 35 = .ok (.ireturn, 1) := by decide +kernel
theorem d_A_namesParent_0 : decode M_A_namesParent.2.1 0 = .ok (.iconst 0, 1) := by decide +kernel
theorem d_A_namesParent_1 : decode M_A_namesParent.2.1 1 = .ok (.istore_n 2, 1) := by decide +kernel
theorem d_A_namesParent_2 : decode M_A_namesParent.2.1 2 = .ok (.iload_n 2, 1) := by decide +kernel
theorem d_A_namesParent_3 : decode M_A_namesParent.2.1 3 = .ok (.aload_n 0, 1) := by decide +kernel
theorem d_A_namesParent_4 : decode M_A_namesParent.2.1 4 = .ok (.getfield 26, 3) := by decide +kernel
theorem d_A_namesParent_7 : decode M_A_namesParent.2.1 7 = .ok (.arraylength, 1) := by decide +kernel
theorem d_A_namesParent_8 : decode M_A_namesParent.2.1 8 = .ok (.if_icmp .ge 60, 3) := by decide +kernel
theorem d_A_namesParent_11 : decode M_A_namesParent.2.1 11 = .ok (.aload_n 0, 1) := by decide +kernel
theorem d_A_namesParent_12 : decode M_A_namesParent.2.1 12 = .ok (.getfield 26, 3) := by decide +kernel
theorem d_A_namesParent_15 : decode M_A_namesParent.2.1 15 = .ok (.iload_n 2, 1) := by decide +kernel
theorem d_A_namesParent_16 : decode M_A_namesParent.2.1 16 = .ok (.aaload, 1) := by decide +kernel
theorem d_A_namesParent_17 : decode M_A_namesParent.2.1 17 = .ok (.getfield 81, 3) := by decide +kernel
theorem d_A_namesParent_20 : decode M_A_namesParent.2.1 20 = .ok (.bipush 80, 2) := by decide +kernel
theorem d_A_namesParent_22 : decode M_A_namesParent.2.1 22 = .ok (.if_icmp .ne 40, 3) := by decide +kernel
theorem d_A_namesParent_25 : decode M_A_namesParent.2.1 25 = .ok (.iload_n 1, 1) := by decide +kernel
theorem d_A_namesParent_26 : decode M_A_namesParent.2.1 26 = .ok (.iconst (-1), 1) := by decide +kernel
theorem d_A_namesParent_27 : decode M_A_namesParent.2.1 27 = .ok (.if_icmp .eq 35, 3) := by decide +kernel
theorem d_A_namesParent_30 : decode M_A_namesParent.2.1 30 = .ok (.aload_n 0, 1) := by decide +kernel
theorem d_A_namesParent_31 : decode M_A_namesParent.2.1 31 = .ok (.getfield 26, 3) := by decide +kernel
theorem d_A_namesParent_34 : decode M_A_namesParent.2.1 34 = .ok (.iload_n 2, 1) := by decide +kernel
theorem d_A_namesParent_35 : decode M_A_namesParent.2.1 35 = .ok (.aaload, 1) := by decide +kernel
theorem d_A_namesParent_36 : decode M_A_namesParent.2.1 36 = .ok (.getfield 84, 3) := by decide +kernel
theorem d_A_namesParent_39 : decode M_A_namesParent.2.1 39 = .ok (.iload_n 1, 1) := by decide +kernel
theorem d_A_namesParent_40 : decode M_A_namesParent.2.1 40 = .ok (.if_icmp .eq 16, 3) := by decide +kernel
theorem d_A_namesParent_43 : decode M_A_namesParent.2.1 43 = .ok (.aload_n 0, 1) := by decide +kernel
theorem d_A_namesParent_44 : decode M_A_namesParent.2.1 44 = .ok (.getfield 26, 3) := by decide +kernel
theorem d_A_namesParent_47 : decode M_A_namesParent.2.1 47 = .ok (.iload_n 2, 1) := by decide +kernel
theorem d_A_namesParent_48 : decode M_A_namesParent.2.1 48 = .ok (.aaload, 1) := by decide +kernel
theorem d_A_namesParent_49 : decode M_A_namesParent.2.1 49 = .ok (.getfield 93, 3) := by decide +kernel
theorem d_A_namesParent_52 : decode M_A_namesParent.2.1 52 = .ok (.iload_n 1, 1) := by decide +kernel
theorem d_A_namesParent_53 : decode M_A_namesParent.2.1 53 = .ok (.if_icmp .ne 7, 3) := by decide +kernel
theorem d_A_namesParent_56 : decode M_A_namesParent.2.1 56 = .ok (.iconst 1, 1) := by decide +kernel
theorem d_A_namesParent_57 : decode M_A_namesParent.2.1 57 = .ok (.goto 4, 3) := by decide +kernel
theorem d_A_namesParent_60 : decode M_A_namesParent.2.1 60 = .ok (.iconst 0, 1) := by decide +kernel
theorem d_A_namesParent_61 : decode M_A_namesParent.2.1 61 = .ok (.ireturn, 1) := by decide +kernel
theorem d_A_namesParent_62 : decode M_A_namesParent.2.1 62 = .ok (.iinc 2 1, 3) := by decide +kernel
theorem d_A_namesParent_65 : decode M_A_namesParent.2.1 65 = .ok (.goto (-63), 3) := by decide +kernel
theorem d_A_namesParent_68 : decode M_A_namesParent.2.1 68 = .ok (.iconst 0, 1) := by decide +kernel
theorem d_A_namesParent_69 : decode M_A_namesParent.2.1 69 = .ok (.ireturn, 1) := by decide +kernel
theorem d_B_leaves_0 : decode M_B_leaves.2.1 0 = .ok (.aload_n 0, 1) := by decide +kernel
theorem d_B_leaves_1 : decode M_B_leaves.2.1 1 = .ok (.iload_n 1, 1) := by decide +kernel
theorem d_B_leaves_2 : decode M_B_leaves.2.1 2 = .ok (.invokevirtual 56, 3) := by decide +kernel
theorem d_B_leaves_5 : decode M_B_leaves.2.1 5 = .ok (.astore_n 2, 1) := by decide +kernel
theorem d_B_leaves_6 : decode M_B_leaves.2.1 6 = .ok (.aload_n 2, 1) := by decide +kernel
theorem d_B_leaves_7 : decode M_B_leaves.2.1 7 = .ok (.ifnonnull 7, 3) := by decide +kernel
theorem d_B_leaves_10 : decode M_B_leaves.2.1 10 = .ok (.iconst (-1), 1) := by decide +kernel
theorem d_B_leaves_11 : decode M_B_leaves.2.1 11 = .ok (.goto 10, 3) := by decide +kernel
theorem d_B_leaves_14 : decode M_B_leaves.2.1 14 = .ok (.aload_n 2, 1) := by decide +kernel
theorem d_B_leaves_15 : decode M_B_leaves.2.1 15 = .ok (.getfield 132, 3) := by decide +kernel
theorem d_B_leaves_18 : decode M_B_leaves.2.1 18 = .ok (.invokevirtual 146, 3) := by decide +kernel
theorem d_B_leaves_21 : decode M_B_leaves.2.1 21 = .ok (.ireturn, 1) := by decide +kernel
theorem d_H_countLeaves_0 : decode M_H_countLeaves.2.1 0 = .ok (.iconst 0, 1) := by decide +kernel
theorem d_H_countLeaves_1 : decode M_H_countLeaves.2.1 1 = .ok (.istore_n 1, 1) := by decide +kernel
theorem d_H_countLeaves_2 : decode M_H_countLeaves.2.1 2 = .ok (.iconst 0, 1) := by decide +kernel
theorem d_H_countLeaves_3 : decode M_H_countLeaves.2.1 3 = .ok (.istore_n 2, 1) := by decide +kernel
theorem d_H_countLeaves_4 : decode M_H_countLeaves.2.1 4 = .ok (.iload_n 2, 1) := by decide +kernel
theorem d_H_countLeaves_5 : decode M_H_countLeaves.2.1 5 = .ok (.aload_n 0, 1) := by decide +kernel
theorem d_H_countLeaves_6 : decode M_H_countLeaves.2.1 6 = .ok (.getfield 17, 3) := by decide +kernel
theorem d_H_countLeaves_9 : decode M_H_countLeaves.2.1 9 = .ok (.if_icmp .ge 28, 3) := by decide +kernel
theorem d_H_countLeaves_12 : decode M_H_countLeaves.2.1 12 = .ok (.aload_n 0, 1) := by decide +kernel
theorem d_H_countLeaves_13 : decode M_H_countLeaves.2.1 13 = .ok (.aload_n 0, 1) := by decide +kernel
theorem d_H_countLeaves_14 : decode M_H_countLeaves.2.1 14 = .ok (.getfield 11, 3) := by decide +kernel
theorem d_H_countLeaves_17 : decode M_H_countLeaves.2.1 17 = .ok (.iload_n 2, 1) := by decide +kernel
theorem d_H_countLeaves_18 : decode M_H_countLeaves.2.1 18 = .ok (.aaload, 1) := by decide +kernel
theorem d_H_countLeaves_19 : decode M_H_countLeaves.2.1 19 = .ok (.getfield 25, 3) := by decide +kernel
theorem d_H_countLeaves_22 : decode M_H_countLeaves.2.1 22 = .ok (.invokevirtual 32, 3) := by decide +kernel
theorem d_H_countLeaves_25 : decode M_H_countLeaves.2.1 25 = .ok (.ifCond .ne 6, 3) := by decide +kernel
theorem d_H_countLeaves_28 : decode M_H_countLeaves.2.1 28 = .ok (.iinc 1 1, 3) := by decide +kernel
theorem d_H_countLeaves_31 : decode M_H_countLeaves.2.1 31 = .ok (.iinc 2 1, 3) := by decide +kernel
theorem d_H_countLeaves_34 : decode M_H_countLeaves.2.1 34 = .ok (.goto (-30), 3) := by decide +kernel
theorem d_H_countLeaves_37 : decode M_H_countLeaves.2.1 37 = .ok (.iload_n 1, 1) := by decide +kernel
theorem d_H_countLeaves_38 : decode M_H_countLeaves.2.1 38 = .ok (.ireturn, 1) := by decide +kernel
theorem d_B_tag_0 : decode M_B_tag.2.1 0 = .ok (.aload_n 0, 1) := by decide +kernel
theorem d_B_tag_1 : decode M_B_tag.2.1 1 = .ok (.iload_n 1, 1) := by decide +kernel
theorem d_B_tag_2 : decode M_B_tag.2.1 2 = .ok (.invokevirtual 56, 3) := by decide +kernel
theorem d_B_tag_5 : decode M_B_tag.2.1 5 = .ok (.astore 4, 2) := by decide +kernel
theorem d_B_tag_7 : decode M_B_tag.2.1 7 = .ok (.aload 4, 2) := by decide +kernel
theorem d_B_tag_9 : decode M_B_tag.2.1 9 = .ok (.ifnull 10, 3) := by decide +kernel
theorem d_B_tag_12 : decode M_B_tag.2.1 12 = .ok (.iload_n 3, 1) := by decide +kernel
theorem d_B_tag_13 : decode M_B_tag.2.1 13 = .ok (.invokestatic 149, 3) := by decide +kernel
theorem d_B_tag_16 : decode M_B_tag.2.1 16 = .ok (.ifCond .ne 7, 3) := by decide +kernel
theorem d_B_tag_19 : decode M_B_tag.2.1 19 = .ok (.iconst (-1), 1) := by decide +kernel
theorem d_B_tag_20 : decode M_B_tag.2.1 20 = .ok (.goto 10, 3) := by decide +kernel
theorem d_B_tag_23 : decode M_B_tag.2.1 23 = .ok (.aload 4, 2) := by decide +kernel
theorem d_B_tag_25 : decode M_B_tag.2.1 25 = .ok (.iload_n 2, 1) := by decide +kernel
theorem d_B_tag_26 : decode M_B_tag.2.1 26 = .ok (.iload_n 3, 1) := by decide +kernel
theorem d_B_tag_27 : decode M_B_tag.2.1 27 = .ok (.invokevirtual 152, 3) := by decide +kernel
theorem d_B_tag_30 : decode M_B_tag.2.1 30 = .ok (.ireturn, 1) := by decide +kernel
theorem d_G_tagOf_0 : decode M_G_tagOf.2.1 0 = .ok (.aconst_null, 1) := by decide +kernel
theorem d_G_tagOf_1 : decode M_G_tagOf.2.1 1 = .ok (.astore_n 3, 1) := by decide +kernel
theorem d_G_tagOf_2 : decode M_G_tagOf.2.1 2 = .ok (.iconst (-1), 1) := by decide +kernel
theorem d_G_tagOf_3 : decode M_G_tagOf.2.1 3 = .ok (.istore 4, 2) := by decide +kernel
theorem d_G_tagOf_5 : decode M_G_tagOf.2.1 5 = .ok (.iconst 0, 1) := by decide +kernel
theorem d_G_tagOf_6 : decode M_G_tagOf.2.1 6 = .ok (.istore 5, 2) := by decide +kernel
theorem d_G_tagOf_8 : decode M_G_tagOf.2.1 8 = .ok (.iload 5, 2) := by decide +kernel
theorem d_G_tagOf_10 : decode M_G_tagOf.2.1 10 = .ok (.aload_n 0, 1) := by decide +kernel
theorem d_G_tagOf_11 : decode M_G_tagOf.2.1 11 = .ok (.getfield 17, 3) := by decide +kernel
theorem d_G_tagOf_14 : decode M_G_tagOf.2.1 14 = .ok (.if_icmp .ge 58, 3) := by decide +kernel
theorem d_G_tagOf_17 : decode M_G_tagOf.2.1 17 = .ok (.aload_n 0, 1) := by decide +kernel
theorem d_G_tagOf_18 : decode M_G_tagOf.2.1 18 = .ok (.getfield 11, 3) := by decide +kernel
theorem d_G_tagOf_21 : decode M_G_tagOf.2.1 21 = .ok (.iload 5, 2) := by decide +kernel
theorem d_G_tagOf_23 : decode M_G_tagOf.2.1 23 = .ok (.aaload, 1) := by decide +kernel
theorem d_G_tagOf_24 : decode M_G_tagOf.2.1 24 = .ok (.iload_n 1, 1) := by decide +kernel
theorem d_G_tagOf_25 : decode M_G_tagOf.2.1 25 = .ok (.iload_n 2, 1) := by decide +kernel
theorem d_G_tagOf_26 : decode M_G_tagOf.2.1 26 = .ok (.invokevirtual 128, 3) := by decide +kernel
theorem d_G_tagOf_29 : decode M_G_tagOf.2.1 29 = .ok (.astore 6, 2) := by decide +kernel
theorem d_G_tagOf_31 : decode M_G_tagOf.2.1 31 = .ok (.aload 6, 2) := by decide +kernel
theorem d_G_tagOf_33 : decode M_G_tagOf.2.1 33 = .ok (.ifnull 33, 3) := by decide +kernel
theorem d_G_tagOf_36 : decode M_G_tagOf.2.1 36 = .ok (.aload_n 0, 1) := by decide +kernel
theorem d_G_tagOf_37 : decode M_G_tagOf.2.1 37 = .ok (.getfield 11, 3) := by decide +kernel
theorem d_G_tagOf_40 : decode M_G_tagOf.2.1 40 = .ok (.iload 5, 2) := by decide +kernel
theorem d_G_tagOf_42 : decode M_G_tagOf.2.1 42 = .ok (.aaload, 1) := by decide +kernel
theorem d_G_tagOf_43 : decode M_G_tagOf.2.1 43 = .ok (.getfield 132, 3) := by decide +kernel
theorem d_G_tagOf_46 : decode M_G_tagOf.2.1 46 = .ok (.iload 4, 2) := by decide +kernel
theorem d_G_tagOf_48 : decode M_G_tagOf.2.1 48 = .ok (.if_icmp .lt 18, 3) := by decide +kernel
theorem d_G_tagOf_51 : decode M_G_tagOf.2.1 51 = .ok (.aload 6, 2) := by decide +kernel
theorem d_G_tagOf_53 : decode M_G_tagOf.2.1 53 = .ok (.astore_n 3, 1) := by decide +kernel
theorem d_G_tagOf_54 : decode M_G_tagOf.2.1 54 = .ok (.aload_n 0, 1) := by decide +kernel
theorem d_G_tagOf_55 : decode M_G_tagOf.2.1 55 = .ok (.getfield 11, 3) := by decide +kernel
theorem d_G_tagOf_58 : decode M_G_tagOf.2.1 58 = .ok (.iload 5, 2) := by decide +kernel
theorem d_G_tagOf_60 : decode M_G_tagOf.2.1 60 = .ok (.aaload, 1) := by decide +kernel
theorem d_G_tagOf_61 : decode M_G_tagOf.2.1 61 = .ok (.getfield 132, 3) := by decide +kernel
theorem d_G_tagOf_64 : decode M_G_tagOf.2.1 64 = .ok (.istore 4, 2) := by decide +kernel
theorem d_G_tagOf_66 : decode M_G_tagOf.2.1 66 = .ok (.iinc 5 1, 3) := by decide +kernel
theorem d_G_tagOf_69 : decode M_G_tagOf.2.1 69 = .ok (.goto (-61), 3) := by decide +kernel
theorem d_G_tagOf_72 : decode M_G_tagOf.2.1 72 = .ok (.aload_n 3, 1) := by decide +kernel
theorem d_G_tagOf_73 : decode M_G_tagOf.2.1 73 = .ok (.ifnonnull 5, 3) := by decide +kernel
theorem d_G_tagOf_76 : decode M_G_tagOf.2.1 76 = .ok (.iconst (-1), 1) := by decide +kernel
theorem d_G_tagOf_77 : decode M_G_tagOf.2.1 77 = .ok (.ireturn, 1) := by decide +kernel
theorem d_G_tagOf_78 : decode M_G_tagOf.2.1 78 = .ok (.aload_n 3, 1) := by decide +kernel
theorem d_G_tagOf_79 : decode M_G_tagOf.2.1 79 = .ok (.getfield 135, 3) := by decide +kernel
theorem d_G_tagOf_82 : decode M_G_tagOf.2.1 82 = .ok (.ifCond .eq 7, 3) := by decide +kernel
theorem d_G_tagOf_85 : decode M_G_tagOf.2.1 85 = .ok (.iconst 1, 1) := by decide +kernel
theorem d_G_tagOf_86 : decode M_G_tagOf.2.1 86 = .ok (.goto 4, 3) := by decide +kernel
theorem d_G_tagOf_89 : decode M_G_tagOf.2.1 89 = .ok (.iconst 0, 1) := by decide +kernel
theorem d_G_tagOf_90 : decode M_G_tagOf.2.1 90 = .ok (.ireturn, 1) := by decide +kernel
theorem d_A_tagCardFor_0 : decode M_A_tagCardFor.2.1 0 = .ok (.iconst 0, 1) := by decide +kernel
theorem d_A_tagCardFor_1 : decode M_A_tagCardFor.2.1 1 = .ok (.istore_n 3, 1) := by decide +kernel
theorem d_A_tagCardFor_2 : decode M_A_tagCardFor.2.1 2 = .ok (.iload_n 3, 1) := by decide +kernel
theorem d_A_tagCardFor_3 : decode M_A_tagCardFor.2.1 3 = .ok (.aload_n 0, 1) := by decide +kernel
theorem d_A_tagCardFor_4 : decode M_A_tagCardFor.2.1 4 = .ok (.getfield 26, 3) := by decide +kernel
theorem d_A_tagCardFor_7 : decode M_A_tagCardFor.2.1 7 = .ok (.arraylength, 1) := by decide +kernel
theorem d_A_tagCardFor_8 : decode M_A_tagCardFor.2.1 8 = .ok (.if_icmp .ge 79, 3) := by decide +kernel
theorem d_A_tagCardFor_11 : decode M_A_tagCardFor.2.1 11 = .ok (.aload_n 0, 1) := by decide +kernel
theorem d_A_tagCardFor_12 : decode M_A_tagCardFor.2.1 12 = .ok (.getfield 26, 3) := by decide +kernel
theorem d_A_tagCardFor_15 : decode M_A_tagCardFor.2.1 15 = .ok (.iload_n 3, 1) := by decide +kernel
theorem d_A_tagCardFor_16 : decode M_A_tagCardFor.2.1 16 = .ok (.aaload, 1) := by decide +kernel
theorem d_A_tagCardFor_17 : decode M_A_tagCardFor.2.1 17 = .ok (.getfield 81, 3) := by decide +kernel
theorem d_A_tagCardFor_20 : decode M_A_tagCardFor.2.1 20 = .ok (.bipush 84, 2) := by decide +kernel
theorem d_A_tagCardFor_22 : decode M_A_tagCardFor.2.1 22 = .ok (.if_icmp .ne 59, 3) := by decide +kernel
theorem d_A_tagCardFor_25 : decode M_A_tagCardFor.2.1 25 = .ok (.aload_n 0, 1) := by decide +kernel
theorem d_A_tagCardFor_26 : decode M_A_tagCardFor.2.1 26 = .ok (.getfield 26, 3) := by decide +kernel
theorem d_A_tagCardFor_29 : decode M_A_tagCardFor.2.1 29 = .ok (.iload_n 3, 1) := by decide +kernel
theorem d_A_tagCardFor_30 : decode M_A_tagCardFor.2.1 30 = .ok (.aaload, 1) := by decide +kernel
theorem d_A_tagCardFor_31 : decode M_A_tagCardFor.2.1 31 = .ok (.getfield 96, 3) := by decide +kernel
theorem d_A_tagCardFor_34 : decode M_A_tagCardFor.2.1 34 = .ok (.iload_n 2, 1) := by decide +kernel
theorem d_A_tagCardFor_35 : decode M_A_tagCardFor.2.1 35 = .ok (.if_icmp .ne 46, 3) := by decide +kernel
theorem d_A_tagCardFor_38 : decode M_A_tagCardFor.2.1 38 = .ok (.aload_n 0, 1) := by decide +kernel
theorem d_A_tagCardFor_39 : decode M_A_tagCardFor.2.1 39 = .ok (.getfield 23, 3) := by decide +kernel
theorem d_A_tagCardFor_42 : decode M_A_tagCardFor.2.1 42 = .ok (.iconst 1, 1) := by decide +kernel
theorem d_A_tagCardFor_43 : decode M_A_tagCardFor.2.1 43 = .ok (.if_icmp .ne 10, 3) := by decide +kernel
theorem d_A_tagCardFor_46 : decode M_A_tagCardFor.2.1 46 = .ok (.aload_n 0, 1) := by decide +kernel
theorem d_A_tagCardFor_47 : decode M_A_tagCardFor.2.1 47 = .ok (.getfield 19, 3) := by decide +kernel
theorem d_A_tagCardFor_50 : decode M_A_tagCardFor.2.1 50 = .ok (.goto 12, 3) := by decide +kernel
theorem d_A_tagCardFor_53 : decode M_A_tagCardFor.2.1 53 = .ok (.aload_n 0, 1) := by decide +kernel
theorem d_A_tagCardFor_54 : decode M_A_tagCardFor.2.1 54 = .ok (.getfield 26, 3) := by decide +kernel
theorem d_A_tagCardFor_57 : decode M_A_tagCardFor.2.1 57 = .ok (.iload_n 3, 1) := by decide +kernel
theorem d_A_tagCardFor_58 : decode M_A_tagCardFor.2.1 58 = .ok (.aaload, 1) := by decide +kernel
theorem d_A_tagCardFor_59 : decode M_A_tagCardFor.2.1 59 = .ok (.getfield 84, 3) := by decide +kernel
theorem d_A_tagCardFor_62 : decode M_A_tagCardFor.2.1 62 = .ok (.istore 4, 2) := by decide +kernel
theorem d_A_tagCardFor_64 : decode M_A_tagCardFor.2.1 64 = .ok (.iload 4, 2) := by decide +kernel
theorem d_A_tagCardFor_66 : decode M_A_tagCardFor.2.1 66 = .ok (.iload_n 1, 1) := by decide +kernel
theorem d_A_tagCardFor_67 : decode M_A_tagCardFor.2.1 67 = .ok (.if_icmp .ne 12, 3) := by decide +kernel
theorem d_A_tagCardFor_70 : decode M_A_tagCardFor.2.1 70 = .ok (.aload_n 0, 1) := by decide +kernel
theorem d_A_tagCardFor_71 : decode M_A_tagCardFor.2.1 71 = .ok (.getfield 26, 3) := by decide +kernel
theorem d_A_tagCardFor_74 : decode M_A_tagCardFor.2.1 74 = .ok (.iload_n 3, 1) := by decide +kernel
theorem d_A_tagCardFor_75 : decode M_A_tagCardFor.2.1 75 = .ok (.aaload, 1) := by decide +kernel
theorem d_A_tagCardFor_76 : decode M_A_tagCardFor.2.1 76 = .ok (.goto 4, 3) := by decide +kernel
theorem d_A_tagCardFor_79 : decode M_A_tagCardFor.2.1 79 = .ok (.aconst_null, 1) := by decide +kernel
theorem d_A_tagCardFor_80 : decode M_A_tagCardFor.2.1 80 = .ok (.areturn, 1) := by decide +kernel
theorem d_A_tagCardFor_81 : decode M_A_tagCardFor.2.1 81 = .ok (.iinc 3 1, 3) := by decide +kernel
theorem d_A_tagCardFor_84 : decode M_A_tagCardFor.2.1 84 = .ok (.goto (-82), 3) := by decide +kernel
theorem d_A_tagCardFor_87 : decode M_A_tagCardFor.2.1 87 = .ok (.aconst_null, 1) := by decide +kernel
theorem d_A_tagCardFor_88 : decode M_A_tagCardFor.2.1 88 = .ok (.areturn, 1) := by decide +kernel
theorem d_B_loose_0 : decode M_B_loose.2.1 0 = .ok (.aload_n 0, 1) := by decide +kernel
theorem d_B_loose_1 : decode M_B_loose.2.1 1 = .ok (.iload_n 1, 1) := by decide +kernel
theorem d_B_loose_2 : decode M_B_loose.2.1 2 = .ok (.invokevirtual 56, 3) := by decide +kernel
theorem d_B_loose_5 : decode M_B_loose.2.1 5 = .ok (.astore_n 2, 1) := by decide +kernel
theorem d_B_loose_6 : decode M_B_loose.2.1 6 = .ok (.aload_n 2, 1) := by decide +kernel
theorem d_B_loose_7 : decode M_B_loose.2.1 7 = .ok (.ifnonnull 7, 3) := by decide +kernel
theorem d_B_loose_10 : decode M_B_loose.2.1 10 = .ok (.iconst (-1), 1) := by decide +kernel
theorem d_B_loose_11 : decode M_B_loose.2.1 11 = .ok (.goto 7, 3) := by decide +kernel
theorem d_B_loose_14 : decode M_B_loose.2.1 14 = .ok (.aload_n 2, 1) := by decide +kernel
theorem d_B_loose_15 : decode M_B_loose.2.1 15 = .ok (.invokevirtual 156, 3) := by decide +kernel
theorem d_B_loose_18 : decode M_B_loose.2.1 18 = .ok (.ireturn, 1) := by decide +kernel
theorem d_B_rebuild_0 : decode M_B_rebuild.2.1 0 = .ok (.aload_n 0, 1) := by decide +kernel
theorem d_B_rebuild_1 : decode M_B_rebuild.2.1 1 = .ok (.iload_n 1, 1) := by decide +kernel
theorem d_B_rebuild_2 : decode M_B_rebuild.2.1 2 = .ok (.invokevirtual 56, 3) := by decide +kernel
theorem d_B_rebuild_5 : decode M_B_rebuild.2.1 5 = .ok (.astore_n 2, 1) := by decide +kernel
theorem d_B_rebuild_6 : decode M_B_rebuild.2.1 6 = .ok (.aload_n 2, 1) := by decide +kernel
theorem d_B_rebuild_7 : decode M_B_rebuild.2.1 7 = .ok (.ifnonnull 5, 3) := by decide +kernel
theorem d_B_rebuild_10 : decode M_B_rebuild.2.1 10 = .ok (.iconst (-1), 1) := by decide +kernel
theorem d_B_rebuild_11 : decode M_B_rebuild.2.1 11 = .ok (.ireturn, 1) := by decide +kernel
theorem d_B_rebuild_12 : decode M_B_rebuild.2.1 12 = .ok (.aload_n 2, 1) := by decide +kernel
theorem d_B_rebuild_13 : decode M_B_rebuild.2.1 13 = .ok (.invokevirtual 159, 3) := by decide +kernel
theorem d_B_rebuild_16 : decode M_B_rebuild.2.1 16 = .ok (.aload_n 2, 1) := by decide +kernel
theorem d_B_rebuild_17 : decode M_B_rebuild.2.1 17 = .ok (.getfield 132, 3) := by decide +kernel
theorem d_B_rebuild_20 : decode M_B_rebuild.2.1 20 = .ok (.getfield 136, 3) := by decide +kernel
theorem d_B_rebuild_23 : decode M_B_rebuild.2.1 23 = .ok (.ireturn, 1) := by decide +kernel
theorem d_G_deriveAnew_0 : decode M_G_deriveAnew.2.1 0 = .ok (.aload_n 0, 1) := by decide +kernel
theorem d_G_deriveAnew_1 : decode M_G_deriveAnew.2.1 1 = .ok (.getfield 24, 3) := by decide +kernel
theorem d_G_deriveAnew_4 : decode M_G_deriveAnew.2.1 4 = .ok (.invokevirtual 73, 3) := by decide +kernel
theorem d_G_deriveAnew_7 : decode M_G_deriveAnew.2.1 7 = .ok (.aload_n 0, 1) := by decide +kernel
theorem d_G_deriveAnew_8 : decode M_G_deriveAnew.2.1 8 = .ok (.getfield 31, 3) := by decide +kernel
theorem d_G_deriveAnew_11 : decode M_G_deriveAnew.2.1 11 = .ok (.invokevirtual 76, 3) := by decide +kernel
theorem d_G_deriveAnew_14 : decode M_G_deriveAnew.2.1 14 = .ok (.aload_n 0, 1) := by decide +kernel
theorem d_G_deriveAnew_15 : decode M_G_deriveAnew.2.1 15 = .ok (.getfield 35, 3) := by decide +kernel
theorem d_G_deriveAnew_18 : decode M_G_deriveAnew.2.1 18 = .ok (.invokevirtual 76, 3) := by decide +kernel
theorem d_G_deriveAnew_21 : decode M_G_deriveAnew.2.1 21 = .ok (.iconst 0, 1) := by decide +kernel
theorem d_G_deriveAnew_22 : decode M_G_deriveAnew.2.1 22 = .ok (.istore_n 1, 1) := by decide +kernel
theorem d_G_deriveAnew_23 : decode M_G_deriveAnew.2.1 23 = .ok (.iload_n 1, 1) := by decide +kernel
theorem d_G_deriveAnew_24 : decode M_G_deriveAnew.2.1 24 = .ok (.aload_n 0, 1) := by decide +kernel
theorem d_G_deriveAnew_25 : decode M_G_deriveAnew.2.1 25 = .ok (.getfield 17, 3) := by decide +kernel
theorem d_G_deriveAnew_28 : decode M_G_deriveAnew.2.1 28 = .ok (.if_icmp .ge 29, 3) := by decide +kernel
theorem d_G_deriveAnew_31 : decode M_G_deriveAnew.2.1 31 = .ok (.aload_n 0, 1) := by decide +kernel
theorem d_G_deriveAnew_32 : decode M_G_deriveAnew.2.1 32 = .ok (.aload_n 0, 1) := by decide +kernel
theorem d_G_deriveAnew_33 : decode M_G_deriveAnew.2.1 33 = .ok (.getfield 11, 3) := by decide +kernel
theorem d_G_deriveAnew_36 : decode M_G_deriveAnew.2.1 36 = .ok (.iload_n 1, 1) := by decide +kernel
theorem d_G_deriveAnew_37 : decode M_G_deriveAnew.2.1 37 = .ok (.aaload, 1) := by decide +kernel
theorem d_G_deriveAnew_38 : decode M_G_deriveAnew.2.1 38 = .ok (.invokevirtual 64, 3) := by decide +kernel
theorem d_G_deriveAnew_41 : decode M_G_deriveAnew.2.1 41 = .ok (.aload_n 0, 1) := by decide +kernel
theorem d_G_deriveAnew_42 : decode M_G_deriveAnew.2.1 42 = .ok (.aload_n 0, 1) := by decide +kernel
theorem d_G_deriveAnew_43 : decode M_G_deriveAnew.2.1 43 = .ok (.getfield 11, 3) := by decide +kernel
theorem d_G_deriveAnew_46 : decode M_G_deriveAnew.2.1 46 = .ok (.iload_n 1, 1) := by decide +kernel
theorem d_G_deriveAnew_47 : decode M_G_deriveAnew.2.1 47 = .ok (.aaload, 1) := by decide +kernel
theorem d_G_deriveAnew_48 : decode M_G_deriveAnew.2.1 48 = .ok (.invokevirtual 70, 3) := by decide +kernel
theorem d_G_deriveAnew_51 : decode M_G_deriveAnew.2.1 51 = .ok (.iinc 1 1, 3) := by decide +kernel
theorem d_G_deriveAnew_54 : decode M_G_deriveAnew.2.1 54 = .ok (.goto (-31), 3) := by decide +kernel
theorem d_G_deriveAnew_57 : decode M_G_deriveAnew.2.1 57 = .ok (.return_, 1) := by decide +kernel
theorem d_H_clear_0 : decode M_H_clear.2.1 0 = .ok (.aload_n 0, 1) := by decide +kernel
theorem d_H_clear_1 : decode M_H_clear.2.1 1 = .ok (.iconst 0, 1) := by decide +kernel
theorem d_H_clear_2 : decode M_H_clear.2.1 2 = .ok (.putfield 17, 3) := by decide +kernel
theorem d_H_clear_5 : decode M_H_clear.2.1 5 = .ok (.return_, 1) := by decide +kernel
theorem d_N_clear_0 : decode M_N_clear.2.1 0 = .ok (.aload_n 0, 1) := by decide +kernel
theorem d_N_clear_1 : decode M_N_clear.2.1 1 = .ok (.iconst 0, 1) := by decide +kernel
theorem d_N_clear_2 : decode M_N_clear.2.1 2 = .ok (.putfield 13, 3) := by decide +kernel
theorem d_N_clear_5 : decode M_N_clear.2.1 5 = .ok (.return_, 1) := by decide +kernel

/-! Decode rows. Own work. -/
theorem d_B_init_0 : decode M_B_init.2.1 0 = .ok (.aload_n 0, 1) := by decide +kernel
theorem d_B_init_1 : decode M_B_init.2.1 1 = .ok (.invokespecial 1, 3) := by decide +kernel
theorem d_B_init_4 : decode M_B_init.2.1 4 = .ok (.aload_n 0, 1) := by decide +kernel
theorem d_B_init_5 : decode M_B_init.2.1 5 = .ok (.new 7, 3) := by decide +kernel
theorem d_B_init_8 : decode M_B_init.2.1 8 = .ok (.dup, 1) := by decide +kernel
theorem d_B_init_9 : decode M_B_init.2.1 9 = .ok (.invokespecial 9, 3) := by decide +kernel
theorem d_B_init_12 : decode M_B_init.2.1 12 = .ok (.putfield 10, 3) := by decide +kernel
theorem d_B_init_15 : decode M_B_init.2.1 15 = .ok (.aload_n 0, 1) := by decide +kernel
theorem d_B_init_16 : decode M_B_init.2.1 16 = .ok (.new 7, 3) := by decide +kernel
theorem d_B_init_19 : decode M_B_init.2.1 19 = .ok (.dup, 1) := by decide +kernel
theorem d_B_init_20 : decode M_B_init.2.1 20 = .ok (.invokespecial 9, 3) := by decide +kernel
theorem d_B_init_23 : decode M_B_init.2.1 23 = .ok (.putfield 16, 3) := by decide +kernel
theorem d_B_init_26 : decode M_B_init.2.1 26 = .ok (.aload_n 0, 1) := by decide +kernel
theorem d_B_init_27 : decode M_B_init.2.1 27 = .ok (.new 19, 3) := by decide +kernel
theorem d_B_init_30 : decode M_B_init.2.1 30 = .ok (.dup, 1) := by decide +kernel
theorem d_B_init_31 : decode M_B_init.2.1 31 = .ok (.invokespecial 21, 3) := by decide +kernel
theorem d_B_init_34 : decode M_B_init.2.1 34 = .ok (.putfield 22, 3) := by decide +kernel
theorem d_B_init_37 : decode M_B_init.2.1 37 = .ok (.aload_n 0, 1) := by decide +kernel
theorem d_B_init_38 : decode M_B_init.2.1 38 = .ok (.new 19, 3) := by decide +kernel
theorem d_B_init_41 : decode M_B_init.2.1 41 = .ok (.dup, 1) := by decide +kernel
theorem d_B_init_42 : decode M_B_init.2.1 42 = .ok (.invokespecial 21, 3) := by decide +kernel
theorem d_B_init_45 : decode M_B_init.2.1 45 = .ok (.putfield 26, 3) := by decide +kernel
theorem d_B_init_48 : decode M_B_init.2.1 48 = .ok (.return_, 1) := by decide +kernel
theorem d_G_init_0 : decode M_G_init.2.1 0 = .ok (.aload_n 0, 1) := by decide +kernel
theorem d_G_init_1 : decode M_G_init.2.1 1 = .ok (.invokespecial 3, 3) := by decide +kernel
theorem d_G_init_4 : decode M_G_init.2.1 4 = .ok (.aload_n 0, 1) := by decide +kernel
theorem d_G_init_5 : decode M_G_init.2.1 5 = .ok (.bipush 32, 2) := by decide +kernel
theorem d_G_init_7 : decode M_G_init.2.1 7 = .ok (.anewarray 9, 3) := by decide +kernel
theorem d_G_init_10 : decode M_G_init.2.1 10 = .ok (.putfield 11, 3) := by decide +kernel
theorem d_G_init_13 : decode M_G_init.2.1 13 = .ok (.aload_n 0, 1) := by decide +kernel
theorem d_G_init_14 : decode M_G_init.2.1 14 = .ok (.iconst 0, 1) := by decide +kernel
theorem d_G_init_15 : decode M_G_init.2.1 15 = .ok (.putfield 17, 3) := by decide +kernel
theorem d_G_init_18 : decode M_G_init.2.1 18 = .ok (.aload_n 0, 1) := by decide +kernel
theorem d_G_init_19 : decode M_G_init.2.1 19 = .ok (.new 21, 3) := by decide +kernel
theorem d_G_init_22 : decode M_G_init.2.1 22 = .ok (.dup, 1) := by decide +kernel
theorem d_G_init_23 : decode M_G_init.2.1 23 = .ok (.invokespecial 23, 3) := by decide +kernel
theorem d_G_init_26 : decode M_G_init.2.1 26 = .ok (.putfield 24, 3) := by decide +kernel
theorem d_G_init_29 : decode M_G_init.2.1 29 = .ok (.aload_n 0, 1) := by decide +kernel
theorem d_G_init_30 : decode M_G_init.2.1 30 = .ok (.new 28, 3) := by decide +kernel
theorem d_G_init_33 : decode M_G_init.2.1 33 = .ok (.dup, 1) := by decide +kernel
theorem d_G_init_34 : decode M_G_init.2.1 34 = .ok (.invokespecial 30, 3) := by decide +kernel
theorem d_G_init_37 : decode M_G_init.2.1 37 = .ok (.putfield 31, 3) := by decide +kernel
theorem d_G_init_40 : decode M_G_init.2.1 40 = .ok (.aload_n 0, 1) := by decide +kernel
theorem d_G_init_41 : decode M_G_init.2.1 41 = .ok (.new 28, 3) := by decide +kernel
theorem d_G_init_44 : decode M_G_init.2.1 44 = .ok (.dup, 1) := by decide +kernel
theorem d_G_init_45 : decode M_G_init.2.1 45 = .ok (.invokespecial 30, 3) := by decide +kernel
theorem d_G_init_48 : decode M_G_init.2.1 48 = .ok (.putfield 35, 3) := by decide +kernel
theorem d_G_init_51 : decode M_G_init.2.1 51 = .ok (.aload_n 0, 1) := by decide +kernel
theorem d_G_init_52 : decode M_G_init.2.1 52 = .ok (.new 28, 3) := by decide +kernel
theorem d_G_init_55 : decode M_G_init.2.1 55 = .ok (.dup, 1) := by decide +kernel
theorem d_G_init_56 : decode M_G_init.2.1 56 = .ok (.invokespecial 30, 3) := by decide +kernel
theorem d_G_init_59 : decode M_G_init.2.1 59 = .ok (.putfield 38, 3) := by decide +kernel
theorem d_G_init_62 : decode M_G_init.2.1 62 = .ok (.return_, 1) := by decide +kernel
theorem d_H_init_0 : decode M_H_init.2.1 0 = .ok (.aload_n 0, 1) := by decide +kernel
theorem d_H_init_1 : decode M_H_init.2.1 1 = .ok (.invokespecial 3, 3) := by decide +kernel
theorem d_H_init_4 : decode M_H_init.2.1 4 = .ok (.aload_n 0, 1) := by decide +kernel
theorem d_H_init_5 : decode M_H_init.2.1 5 = .ok (.bipush 32, 2) := by decide +kernel
theorem d_H_init_7 : decode M_H_init.2.1 7 = .ok (.anewarray 9, 3) := by decide +kernel
theorem d_H_init_10 : decode M_H_init.2.1 10 = .ok (.putfield 11, 3) := by decide +kernel
theorem d_H_init_13 : decode M_H_init.2.1 13 = .ok (.aload_n 0, 1) := by decide +kernel
theorem d_H_init_14 : decode M_H_init.2.1 14 = .ok (.iconst 0, 1) := by decide +kernel
theorem d_H_init_15 : decode M_H_init.2.1 15 = .ok (.putfield 17, 3) := by decide +kernel
theorem d_H_init_18 : decode M_H_init.2.1 18 = .ok (.return_, 1) := by decide +kernel
theorem d_N_init_0 : decode M_N_init.2.1 0 = .ok (.aload_n 0, 1) := by decide +kernel
theorem d_N_init_1 : decode M_N_init.2.1 1 = .ok (.invokespecial 1, 3) := by decide +kernel
theorem d_N_init_4 : decode M_N_init.2.1 4 = .ok (.aload_n 0, 1) := by decide +kernel
theorem d_N_init_5 : decode M_N_init.2.1 5 = .ok (.bipush 16, 2) := by decide +kernel
theorem d_N_init_7 : decode M_N_init.2.1 7 = .ok (.newarray .int, 2) := by decide +kernel
theorem d_N_init_9 : decode M_N_init.2.1 9 = .ok (.putfield 7, 3) := by decide +kernel
theorem d_N_init_12 : decode M_N_init.2.1 12 = .ok (.aload_n 0, 1) := by decide +kernel
theorem d_N_init_13 : decode M_N_init.2.1 13 = .ok (.iconst 0, 1) := by decide +kernel
theorem d_N_init_14 : decode M_N_init.2.1 14 = .ok (.putfield 13, 3) := by decide +kernel
theorem d_N_init_17 : decode M_N_init.2.1 17 = .ok (.return_, 1) := by decide +kernel
theorem d_R_init_0 : decode M_R_init.2.1 0 = .ok (.aload_n 0, 1) := by decide +kernel
theorem d_R_init_1 : decode M_R_init.2.1 1 = .ok (.invokespecial 3, 3) := by decide +kernel
theorem d_R_init_4 : decode M_R_init.2.1 4 = .ok (.aload_n 0, 1) := by decide +kernel
theorem d_R_init_5 : decode M_R_init.2.1 5 = .ok (.sipush 240, 3) := by decide +kernel
theorem d_R_init_8 : decode M_R_init.2.1 8 = .ok (.newarray .byte, 2) := by decide +kernel
theorem d_R_init_10 : decode M_R_init.2.1 10 = .ok (.putfield 9, 3) := by decide +kernel
theorem d_R_init_13 : decode M_R_init.2.1 13 = .ok (.aload_n 0, 1) := by decide +kernel
theorem d_R_init_14 : decode M_R_init.2.1 14 = .ok (.iconst 0, 1) := by decide +kernel
theorem d_R_init_15 : decode M_R_init.2.1 15 = .ok (.putfield 15, 3) := by decide +kernel
theorem d_R_init_18 : decode M_R_init.2.1 18 = .ok (.return_, 1) := by decide +kernel
theorem d_B_card_0 : decode M_B_card.2.1 0 = .ok (.iload_n 1, 1) := by decide +kernel
theorem d_B_card_1 : decode M_B_card.2.1 1 = .ok (.iload_n 2, 1) := by decide +kernel
theorem d_B_card_2 : decode M_B_card.2.1 2 = .ok (.iload_n 3, 1) := by decide +kernel
theorem d_B_card_3 : decode M_B_card.2.1 3 = .ok (.invokestatic 29, 3) := by decide +kernel
theorem d_B_card_6 : decode M_B_card.2.1 6 = .ok (.ifCond .ne 5, 3) := by decide +kernel
theorem d_B_card_9 : decode M_B_card.2.1 9 = .ok (.iconst (-1), 1) := by decide +kernel
theorem d_B_card_10 : decode M_B_card.2.1 10 = .ok (.ireturn, 1) := by decide +kernel
theorem d_B_card_11 : decode M_B_card.2.1 11 = .ok (.aload_n 0, 1) := by decide +kernel
theorem d_B_card_12 : decode M_B_card.2.1 12 = .ok (.getfield 26, 3) := by decide +kernel
theorem d_B_card_15 : decode M_B_card.2.1 15 = .ok (.invokevirtual 33, 3) := by decide +kernel
theorem d_B_card_18 : decode M_B_card.2.1 18 = .ok (.aload_n 0, 1) := by decide +kernel
theorem d_B_card_19 : decode M_B_card.2.1 19 = .ok (.iload_n 1, 1) := by decide +kernel
theorem d_B_card_20 : decode M_B_card.2.1 20 = .ok (.iload_n 2, 1) := by decide +kernel
theorem d_B_card_21 : decode M_B_card.2.1 21 = .ok (.iload_n 3, 1) := by decide +kernel
theorem d_B_card_22 : decode M_B_card.2.1 22 = .ok (.invokevirtual 36, 3) := by decide +kernel
theorem d_B_card_25 : decode M_B_card.2.1 25 = .ok (.aload_n 0, 1) := by decide +kernel
theorem d_B_card_26 : decode M_B_card.2.1 26 = .ok (.getfield 22, 3) := by decide +kernel
theorem d_B_card_29 : decode M_B_card.2.1 29 = .ok (.aload_n 0, 1) := by decide +kernel
theorem d_B_card_30 : decode M_B_card.2.1 30 = .ok (.getfield 26, 3) := by decide +kernel
theorem d_B_card_33 : decode M_B_card.2.1 33 = .ok (.getfield 40, 3) := by decide +kernel
theorem d_B_card_36 : decode M_B_card.2.1 36 = .ok (.invokevirtual 44, 3) := by decide +kernel
theorem d_B_card_39 : decode M_B_card.2.1 39 = .ok (.ifCond .ne 5, 3) := by decide +kernel
theorem d_B_card_42 : decode M_B_card.2.1 42 = .ok (.iconst (-1), 1) := by decide +kernel
theorem d_B_card_43 : decode M_B_card.2.1 43 = .ok (.ireturn, 1) := by decide +kernel
theorem d_B_card_44 : decode M_B_card.2.1 44 = .ok (.aload_n 0, 1) := by decide +kernel
theorem d_B_card_45 : decode M_B_card.2.1 45 = .ok (.getfield 22, 3) := by decide +kernel
theorem d_B_card_48 : decode M_B_card.2.1 48 = .ok (.aload_n 0, 1) := by decide +kernel
theorem d_B_card_49 : decode M_B_card.2.1 49 = .ok (.getfield 26, 3) := by decide +kernel
theorem d_B_card_52 : decode M_B_card.2.1 52 = .ok (.invokevirtual 48, 3) := by decide +kernel
theorem d_B_card_55 : decode M_B_card.2.1 55 = .ok (.aload_n 0, 1) := by decide +kernel
theorem d_B_card_56 : decode M_B_card.2.1 56 = .ok (.getfield 22, 3) := by decide +kernel
theorem d_B_card_59 : decode M_B_card.2.1 59 = .ok (.getfield 40, 3) := by decide +kernel
theorem d_B_card_62 : decode M_B_card.2.1 62 = .ok (.ireturn, 1) := by decide +kernel
theorem d_B_isWritable_0 : decode M_B_isWritable.2.1 0 = .ok (.iload_n 0, 1) := by decide +kernel
theorem d_B_isWritable_1 : decode M_B_isWritable.2.1 1 = .ok (.tableswitch 145 0 5 #[39, 56, 76, 81, 76, 111], 39) := by decide +kernel
theorem d_B_isWritable_40 : decode M_B_isWritable.2.1 40 = .ok (.iload_n 1, 1) := by decide +kernel
theorem d_B_isWritable_41 : decode M_B_isWritable.2.1 41 = .ok (.ifCond .lt 14, 3) := by decide +kernel
theorem d_B_isWritable_44 : decode M_B_isWritable.2.1 44 = .ok (.iload_n 1, 1) := by decide +kernel
theorem d_B_isWritable_45 : decode M_B_isWritable.2.1 45 = .ok (.sipush 9999, 3) := by decide +kernel
theorem d_B_isWritable_48 : decode M_B_isWritable.2.1 48 = .ok (.if_icmp .gt 7, 3) := by decide +kernel
theorem d_B_isWritable_51 : decode M_B_isWritable.2.1 51 = .ok (.iconst 1, 1) := by decide +kernel
theorem d_B_isWritable_52 : decode M_B_isWritable.2.1 52 = .ok (.goto 4, 3) := by decide +kernel
theorem d_B_isWritable_55 : decode M_B_isWritable.2.1 55 = .ok (.iconst 0, 1) := by decide +kernel
theorem d_B_isWritable_56 : decode M_B_isWritable.2.1 56 = .ok (.ireturn, 1) := by decide +kernel
theorem d_B_isWritable_57 : decode M_B_isWritable.2.1 57 = .ok (.iload_n 1, 1) := by decide +kernel
theorem d_B_isWritable_58 : decode M_B_isWritable.2.1 58 = .ok (.invokestatic 149, 3) := by decide +kernel
theorem d_B_isWritable_61 : decode M_B_isWritable.2.1 61 = .ok (.ifCond .eq 14, 3) := by decide +kernel
theorem d_B_isWritable_64 : decode M_B_isWritable.2.1 64 = .ok (.iload_n 2, 1) := by decide +kernel
theorem d_B_isWritable_65 : decode M_B_isWritable.2.1 65 = .ok (.invokestatic 167, 3) := by decide +kernel
theorem d_B_isWritable_68 : decode M_B_isWritable.2.1 68 = .ok (.ifCond .eq 7, 3) := by decide +kernel
theorem d_B_isWritable_71 : decode M_B_isWritable.2.1 71 = .ok (.iconst 1, 1) := by decide +kernel
theorem d_B_isWritable_72 : decode M_B_isWritable.2.1 72 = .ok (.goto 4, 3) := by decide +kernel
theorem d_B_isWritable_75 : decode M_B_isWritable.2.1 75 = .ok (.iconst 0, 1) := by decide +kernel
theorem d_B_isWritable_76 : decode M_B_isWritable.2.1 76 = .ok (.ireturn, 1) := by decide +kernel
theorem d_B_isWritable_77 : decode M_B_isWritable.2.1 77 = .ok (.iload_n 1, 1) := by decide +kernel
theorem d_B_isWritable_78 : decode M_B_isWritable.2.1 78 = .ok (.invokestatic 167, 3) := by decide +kernel
theorem d_B_isWritable_81 : decode M_B_isWritable.2.1 81 = .ok (.ireturn, 1) := by decide +kernel
theorem d_B_isWritable_82 : decode M_B_isWritable.2.1 82 = .ok (.iload_n 1, 1) := by decide +kernel
theorem d_B_isWritable_83 : decode M_B_isWritable.2.1 83 = .ok (.invokestatic 167, 3) := by decide +kernel
theorem d_B_isWritable_86 : decode M_B_isWritable.2.1 86 = .ok (.ifCond .eq 24, 3) := by decide +kernel
theorem d_B_isWritable_89 : decode M_B_isWritable.2.1 89 = .ok (.iload_n 2, 1) := by decide +kernel
theorem d_B_isWritable_90 : decode M_B_isWritable.2.1 90 = .ok (.iconst (-1), 1) := by decide +kernel
theorem d_B_isWritable_91 : decode M_B_isWritable.2.1 91 = .ok (.if_icmp .eq 15, 3) := by decide +kernel
theorem d_B_isWritable_94 : decode M_B_isWritable.2.1 94 = .ok (.iload_n 2, 1) := by decide +kernel
theorem d_B_isWritable_95 : decode M_B_isWritable.2.1 95 = .ok (.invokestatic 167, 3) := by decide +kernel
theorem d_B_isWritable_98 : decode M_B_isWritable.2.1 98 = .ok (.ifCond .eq 12, 3) := by decide +kernel
theorem d_B_isWritable_101 : decode M_B_isWritable.2.1 101 = .ok (.iload_n 1, 1) := by decide +kernel
theorem d_B_isWritable_102 : decode M_B_isWritable.2.1 102 = .ok (.iload_n 2, 1) := by decide +kernel
theorem d_B_isWritable_103 : decode M_B_isWritable.2.1 103 = .ok (.if_icmp .eq 7, 3) := by decide +kernel
theorem d_B_isWritable_106 : decode M_B_isWritable.2.1 106 = .ok (.iconst 1, 1) := by decide +kernel
theorem d_B_isWritable_107 : decode M_B_isWritable.2.1 107 = .ok (.goto 4, 3) := by decide +kernel
theorem d_B_isWritable_110 : decode M_B_isWritable.2.1 110 = .ok (.iconst 0, 1) := by decide +kernel
theorem d_B_isWritable_111 : decode M_B_isWritable.2.1 111 = .ok (.ireturn, 1) := by decide +kernel
theorem d_B_isWritable_112 : decode M_B_isWritable.2.1 112 = .ok (.iload_n 1, 1) := by decide +kernel
theorem d_B_isWritable_113 : decode M_B_isWritable.2.1 113 = .ok (.invokestatic 149, 3) := by decide +kernel
theorem d_B_isWritable_116 : decode M_B_isWritable.2.1 116 = .ok (.ifCond .ne 12, 3) := by decide +kernel
theorem d_B_isWritable_119 : decode M_B_isWritable.2.1 119 = .ok (.iconst (-1), 1) := by decide +kernel
theorem d_B_isWritable_120 : decode M_B_isWritable.2.1 120 = .ok (.iload_n 1, 1) := by decide +kernel
theorem d_B_isWritable_121 : decode M_B_isWritable.2.1 121 = .ok (.isub, 1) := by decide +kernel
theorem d_B_isWritable_122 : decode M_B_isWritable.2.1 122 = .ok (.invokestatic 149, 3) := by decide +kernel
theorem d_B_isWritable_125 : decode M_B_isWritable.2.1 125 = .ok (.ifCond .eq 19, 3) := by decide +kernel
theorem d_B_isWritable_128 : decode M_B_isWritable.2.1 128 = .ok (.iload_n 2, 1) := by decide +kernel
theorem d_B_isWritable_129 : decode M_B_isWritable.2.1 129 = .ok (.iconst (-1), 1) := by decide +kernel
theorem d_B_isWritable_130 : decode M_B_isWritable.2.1 130 = .ok (.if_icmp .eq 10, 3) := by decide +kernel
theorem d_B_isWritable_133 : decode M_B_isWritable.2.1 133 = .ok (.iload_n 2, 1) := by decide +kernel
theorem d_B_isWritable_134 : decode M_B_isWritable.2.1 134 = .ok (.invokestatic 167, 3) := by decide +kernel
theorem d_B_isWritable_137 : decode M_B_isWritable.2.1 137 = .ok (.ifCond .eq 7, 3) := by decide +kernel
theorem d_B_isWritable_140 : decode M_B_isWritable.2.1 140 = .ok (.iconst 1, 1) := by decide +kernel
theorem d_B_isWritable_141 : decode M_B_isWritable.2.1 141 = .ok (.goto 4, 3) := by decide +kernel
theorem d_B_isWritable_144 : decode M_B_isWritable.2.1 144 = .ok (.iconst 0, 1) := by decide +kernel
theorem d_B_isWritable_145 : decode M_B_isWritable.2.1 145 = .ok (.ireturn, 1) := by decide +kernel
theorem d_B_isWritable_146 : decode M_B_isWritable.2.1 146 = .ok (.iload_n 0, 1) := by decide +kernel
theorem d_B_isWritable_147 : decode M_B_isWritable.2.1 147 = .ok (.bipush 6, 2) := by decide +kernel
theorem d_B_isWritable_149 : decode M_B_isWritable.2.1 149 = .ok (.if_icmp .ne 7, 3) := by decide +kernel
theorem d_B_isWritable_152 : decode M_B_isWritable.2.1 152 = .ok (.iconst 1, 1) := by decide +kernel
theorem d_B_isWritable_153 : decode M_B_isWritable.2.1 153 = .ok (.goto 4, 3) := by decide +kernel
theorem d_B_isWritable_156 : decode M_B_isWritable.2.1 156 = .ok (.iconst 0, 1) := by decide +kernel
theorem d_B_isWritable_157 : decode M_B_isWritable.2.1 157 = .ok (.ireturn, 1) := by decide +kernel
theorem d_B_isDigit_0 : decode M_B_isDigit.2.1 0 = .ok (.iload_n 0, 1) := by decide +kernel
theorem d_B_isDigit_1 : decode M_B_isDigit.2.1 1 = .ok (.ifCond .lt 13, 3) := by decide +kernel
theorem d_B_isDigit_4 : decode M_B_isDigit.2.1 4 = .ok (.iload_n 0, 1) := by decide +kernel
theorem d_B_isDigit_5 : decode M_B_isDigit.2.1 5 = .ok (.bipush 9, 2) := by decide +kernel
theorem d_B_isDigit_7 : decode M_B_isDigit.2.1 7 = .ok (.if_icmp .gt 7, 3) := by decide +kernel
theorem d_B_isDigit_10 : decode M_B_isDigit.2.1 10 = .ok (.iconst 1, 1) := by decide +kernel
theorem d_B_isDigit_11 : decode M_B_isDigit.2.1 11 = .ok (.goto 4, 3) := by decide +kernel
theorem d_B_isDigit_14 : decode M_B_isDigit.2.1 14 = .ok (.iconst 0, 1) := by decide +kernel
theorem d_B_isDigit_15 : decode M_B_isDigit.2.1 15 = .ok (.ireturn, 1) := by decide +kernel
theorem d_B_isName_0 : decode M_B_isName.2.1 0 = .ok (.iload_n 0, 1) := by decide +kernel
theorem d_B_isName_1 : decode M_B_isName.2.1 1 = .ok (.ifCond .lt 13, 3) := by decide +kernel
theorem d_B_isName_4 : decode M_B_isName.2.1 4 = .ok (.iload_n 0, 1) := by decide +kernel
theorem d_B_isName_5 : decode M_B_isName.2.1 5 = .ok (.ldc 166, 2) := by decide +kernel
theorem d_B_isName_7 : decode M_B_isName.2.1 7 = .ok (.if_icmp .gt 7, 3) := by decide +kernel
theorem d_B_isName_10 : decode M_B_isName.2.1 10 = .ok (.iconst 1, 1) := by decide +kernel
theorem d_B_isName_11 : decode M_B_isName.2.1 11 = .ok (.goto 4, 3) := by decide +kernel
theorem d_B_isName_14 : decode M_B_isName.2.1 14 = .ok (.iconst 0, 1) := by decide +kernel
theorem d_B_isName_15 : decode M_B_isName.2.1 15 = .ok (.ireturn, 1) := by decide +kernel
theorem d_R_clear_0 : decode M_R_clear.2.1 0 = .ok (.aload_n 0, 1) := by decide +kernel
theorem d_R_clear_1 : decode M_R_clear.2.1 1 = .ok (.iconst 0, 1) := by decide +kernel
theorem d_R_clear_2 : decode M_R_clear.2.1 2 = .ok (.putfield 15, 3) := by decide +kernel
theorem d_R_clear_5 : decode M_R_clear.2.1 5 = .ok (.return_, 1) := by decide +kernel
theorem d_B_writeCard_0 : decode M_B_writeCard.2.1 0 = .ok (.iload_n 1, 1) := by decide +kernel
theorem d_B_writeCard_1 : decode M_B_writeCard.2.1 1 = .ok (.tableswitch 112 0 5 #[39, 50, 62, 75, 87, 100], 39) := by decide +kernel
theorem d_B_writeCard_40 : decode M_B_writeCard.2.1 40 = .ok (.aload_n 0, 1) := by decide +kernel
theorem d_B_writeCard_41 : decode M_B_writeCard.2.1 41 = .ok (.getfield 26, 3) := by decide +kernel
theorem d_B_writeCard_44 : decode M_B_writeCard.2.1 44 = .ok (.iload_n 2, 1) := by decide +kernel
theorem d_B_writeCard_45 : decode M_B_writeCard.2.1 45 = .ok (.invokevirtual 170, 3) := by decide +kernel
theorem d_B_writeCard_48 : decode M_B_writeCard.2.1 48 = .ok (.goto 81, 3) := by decide +kernel
theorem d_B_writeCard_51 : decode M_B_writeCard.2.1 51 = .ok (.aload_n 0, 1) := by decide +kernel
theorem d_B_writeCard_52 : decode M_B_writeCard.2.1 52 = .ok (.getfield 26, 3) := by decide +kernel
theorem d_B_writeCard_55 : decode M_B_writeCard.2.1 55 = .ok (.iload_n 2, 1) := by decide +kernel
theorem d_B_writeCard_56 : decode M_B_writeCard.2.1 56 = .ok (.iload_n 3, 1) := by decide +kernel
theorem d_B_writeCard_57 : decode M_B_writeCard.2.1 57 = .ok (.invokevirtual 173, 3) := by decide +kernel
theorem d_B_writeCard_60 : decode M_B_writeCard.2.1 60 = .ok (.goto 69, 3) := by decide +kernel
theorem d_B_writeCard_63 : decode M_B_writeCard.2.1 63 = .ok (.aload_n 0, 1) := by decide +kernel
theorem d_B_writeCard_64 : decode M_B_writeCard.2.1 64 = .ok (.getfield 26, 3) := by decide +kernel
theorem d_B_writeCard_67 : decode M_B_writeCard.2.1 67 = .ok (.bipush 77, 2) := by decide +kernel
theorem d_B_writeCard_69 : decode M_B_writeCard.2.1 69 = .ok (.iload_n 2, 1) := by decide +kernel
theorem d_B_writeCard_70 : decode M_B_writeCard.2.1 70 = .ok (.invokevirtual 177, 3) := by decide +kernel
theorem d_B_writeCard_73 : decode M_B_writeCard.2.1 73 = .ok (.goto 56, 3) := by decide +kernel
theorem d_B_writeCard_76 : decode M_B_writeCard.2.1 76 = .ok (.aload_n 0, 1) := by decide +kernel
theorem d_B_writeCard_77 : decode M_B_writeCard.2.1 77 = .ok (.getfield 26, 3) := by decide +kernel
theorem d_B_writeCard_80 : decode M_B_writeCard.2.1 80 = .ok (.iload_n 2, 1) := by decide +kernel
theorem d_B_writeCard_81 : decode M_B_writeCard.2.1 81 = .ok (.iload_n 3, 1) := by decide +kernel
theorem d_B_writeCard_82 : decode M_B_writeCard.2.1 82 = .ok (.invokevirtual 180, 3) := by decide +kernel
theorem d_B_writeCard_85 : decode M_B_writeCard.2.1 85 = .ok (.goto 44, 3) := by decide +kernel
theorem d_B_writeCard_88 : decode M_B_writeCard.2.1 88 = .ok (.aload_n 0, 1) := by decide +kernel
theorem d_B_writeCard_89 : decode M_B_writeCard.2.1 89 = .ok (.getfield 26, 3) := by decide +kernel
theorem d_B_writeCard_92 : decode M_B_writeCard.2.1 92 = .ok (.bipush 82, 2) := by decide +kernel
theorem d_B_writeCard_94 : decode M_B_writeCard.2.1 94 = .ok (.iload_n 2, 1) := by decide +kernel
theorem d_B_writeCard_95 : decode M_B_writeCard.2.1 95 = .ok (.invokevirtual 177, 3) := by decide +kernel
theorem d_B_writeCard_98 : decode M_B_writeCard.2.1 98 = .ok (.goto 31, 3) := by decide +kernel
theorem d_B_writeCard_101 : decode M_B_writeCard.2.1 101 = .ok (.aload_n 0, 1) := by decide +kernel
theorem d_B_writeCard_102 : decode M_B_writeCard.2.1 102 = .ok (.getfield 26, 3) := by decide +kernel
theorem d_B_writeCard_105 : decode M_B_writeCard.2.1 105 = .ok (.iload_n 2, 1) := by decide +kernel
theorem d_B_writeCard_106 : decode M_B_writeCard.2.1 106 = .ok (.iload_n 3, 1) := by decide +kernel
theorem d_B_writeCard_107 : decode M_B_writeCard.2.1 107 = .ok (.invokevirtual 183, 3) := by decide +kernel
theorem d_B_writeCard_110 : decode M_B_writeCard.2.1 110 = .ok (.goto 19, 3) := by decide +kernel
theorem d_B_writeCard_113 : decode M_B_writeCard.2.1 113 = .ok (.aload_n 0, 1) := by decide +kernel
theorem d_B_writeCard_114 : decode M_B_writeCard.2.1 114 = .ok (.getfield 26, 3) := by decide +kernel
theorem d_B_writeCard_117 : decode M_B_writeCard.2.1 117 = .ok (.bipush 90, 2) := by decide +kernel
theorem d_B_writeCard_119 : decode M_B_writeCard.2.1 119 = .ok (.aload_n 0, 1) := by decide +kernel
theorem d_B_writeCard_120 : decode M_B_writeCard.2.1 120 = .ok (.getfield 22, 3) := by decide +kernel
theorem d_B_writeCard_123 : decode M_B_writeCard.2.1 123 = .ok (.invokevirtual 74, 3) := by decide +kernel
theorem d_B_writeCard_126 : decode M_B_writeCard.2.1 126 = .ok (.invokevirtual 177, 3) := by decide +kernel
theorem d_B_writeCard_129 : decode M_B_writeCard.2.1 129 = .ok (.return_, 1) := by decide +kernel
theorem d_R_addTimeCard_0 : decode M_R_addTimeCard.2.1 0 = .ok (.aload_n 0, 1) := by decide +kernel
theorem d_R_addTimeCard_1 : decode M_R_addTimeCard.2.1 1 = .ok (.bipush 68, 2) := by decide +kernel
theorem d_R_addTimeCard_3 : decode M_R_addTimeCard.2.1 3 = .ok (.invokevirtual 23, 3) := by decide +kernel
theorem d_R_addTimeCard_6 : decode M_R_addTimeCard.2.1 6 = .ok (.aload_n 0, 1) := by decide +kernel
theorem d_R_addTimeCard_7 : decode M_R_addTimeCard.2.1 7 = .ok (.bipush 32, 2) := by decide +kernel
theorem d_R_addTimeCard_9 : decode M_R_addTimeCard.2.1 9 = .ok (.invokevirtual 23, 3) := by decide +kernel
theorem d_R_addTimeCard_12 : decode M_R_addTimeCard.2.1 12 = .ok (.sipush 1000, 3) := by decide +kernel
theorem d_R_addTimeCard_15 : decode M_R_addTimeCard.2.1 15 = .ok (.istore_n 2, 1) := by decide +kernel
theorem d_R_addTimeCard_16 : decode M_R_addTimeCard.2.1 16 = .ok (.iload_n 2, 1) := by decide +kernel
theorem d_R_addTimeCard_17 : decode M_R_addTimeCard.2.1 17 = .ok (.ifCond .le 34, 3) := by decide +kernel
theorem d_R_addTimeCard_20 : decode M_R_addTimeCard.2.1 20 = .ok (.iload_n 1, 1) := by decide +kernel
theorem d_R_addTimeCard_21 : decode M_R_addTimeCard.2.1 21 = .ok (.iload_n 2, 1) := by decide +kernel
theorem d_R_addTimeCard_22 : decode M_R_addTimeCard.2.1 22 = .ok (.if_icmp .ge 8, 3) := by decide +kernel
theorem d_R_addTimeCard_25 : decode M_R_addTimeCard.2.1 25 = .ok (.iload_n 2, 1) := by decide +kernel
theorem d_R_addTimeCard_26 : decode M_R_addTimeCard.2.1 26 = .ok (.iconst 1, 1) := by decide +kernel
theorem d_R_addTimeCard_27 : decode M_R_addTimeCard.2.1 27 = .ok (.if_icmp .ne 16, 3) := by decide +kernel
theorem d_R_addTimeCard_30 : decode M_R_addTimeCard.2.1 30 = .ok (.aload_n 0, 1) := by decide +kernel
theorem d_R_addTimeCard_31 : decode M_R_addTimeCard.2.1 31 = .ok (.bipush 48, 2) := by decide +kernel
theorem d_R_addTimeCard_33 : decode M_R_addTimeCard.2.1 33 = .ok (.iload_n 1, 1) := by decide +kernel
theorem d_R_addTimeCard_34 : decode M_R_addTimeCard.2.1 34 = .ok (.iload_n 2, 1) := by decide +kernel
theorem d_R_addTimeCard_35 : decode M_R_addTimeCard.2.1 35 = .ok (.idiv, 1) := by decide +kernel
theorem d_R_addTimeCard_36 : decode M_R_addTimeCard.2.1 36 = .ok (.bipush 10, 2) := by decide +kernel
theorem d_R_addTimeCard_38 : decode M_R_addTimeCard.2.1 38 = .ok (.irem, 1) := by decide +kernel
theorem d_R_addTimeCard_39 : decode M_R_addTimeCard.2.1 39 = .ok (.iadd, 1) := by decide +kernel
theorem d_R_addTimeCard_40 : decode M_R_addTimeCard.2.1 40 = .ok (.invokevirtual 23, 3) := by decide +kernel
theorem d_R_addTimeCard_43 : decode M_R_addTimeCard.2.1 43 = .ok (.iload_n 2, 1) := by decide +kernel
theorem d_R_addTimeCard_44 : decode M_R_addTimeCard.2.1 44 = .ok (.bipush 10, 2) := by decide +kernel
theorem d_R_addTimeCard_46 : decode M_R_addTimeCard.2.1 46 = .ok (.idiv, 1) := by decide +kernel
theorem d_R_addTimeCard_47 : decode M_R_addTimeCard.2.1 47 = .ok (.istore_n 2, 1) := by decide +kernel
theorem d_R_addTimeCard_48 : decode M_R_addTimeCard.2.1 48 = .ok (.goto (-32), 3) := by decide +kernel
theorem d_R_addTimeCard_51 : decode M_R_addTimeCard.2.1 51 = .ok (.aload_n 0, 1) := by decide +kernel
theorem d_R_addTimeCard_52 : decode M_R_addTimeCard.2.1 52 = .ok (.bipush 10, 2) := by decide +kernel
theorem d_R_addTimeCard_54 : decode M_R_addTimeCard.2.1 54 = .ok (.invokevirtual 23, 3) := by decide +kernel
theorem d_R_addTimeCard_57 : decode M_R_addTimeCard.2.1 57 = .ok (.return_, 1) := by decide +kernel
theorem d_R_add_0 : decode M_R_add.2.1 0 = .ok (.aload_n 0, 1) := by decide +kernel
theorem d_R_add_1 : decode M_R_add.2.1 1 = .ok (.getfield 15, 3) := by decide +kernel
theorem d_R_add_4 : decode M_R_add.2.1 4 = .ok (.sipush 240, 3) := by decide +kernel
theorem d_R_add_7 : decode M_R_add.2.1 7 = .ok (.if_icmp .ge 24, 3) := by decide +kernel
theorem d_R_add_10 : decode M_R_add.2.1 10 = .ok (.aload_n 0, 1) := by decide +kernel
theorem d_R_add_11 : decode M_R_add.2.1 11 = .ok (.getfield 9, 3) := by decide +kernel
theorem d_R_add_14 : decode M_R_add.2.1 14 = .ok (.aload_n 0, 1) := by decide +kernel
theorem d_R_add_15 : decode M_R_add.2.1 15 = .ok (.getfield 15, 3) := by decide +kernel
theorem d_R_add_18 : decode M_R_add.2.1 18 = .ok (.iload_n 1, 1) := by decide +kernel
theorem d_R_add_19 : decode M_R_add.2.1 19 = .ok (.i2b, 1) := by decide +kernel
theorem d_R_add_20 : decode M_R_add.2.1 20 = .ok (.bastore, 1) := by decide +kernel
theorem d_R_add_21 : decode M_R_add.2.1 21 = .ok (.aload_n 0, 1) := by decide +kernel
theorem d_R_add_22 : decode M_R_add.2.1 22 = .ok (.dup, 1) := by decide +kernel
theorem d_R_add_23 : decode M_R_add.2.1 23 = .ok (.getfield 15, 3) := by decide +kernel
theorem d_R_add_26 : decode M_R_add.2.1 26 = .ok (.iconst 1, 1) := by decide +kernel
theorem d_R_add_27 : decode M_R_add.2.1 27 = .ok (.iadd, 1) := by decide +kernel
theorem d_R_add_28 : decode M_R_add.2.1 28 = .ok (.putfield 15, 3) := by decide +kernel
theorem d_R_add_31 : decode M_R_add.2.1 31 = .ok (.return_, 1) := by decide +kernel
theorem d_R_addFileCard_0 : decode M_R_addFileCard.2.1 0 = .ok (.aload_n 0, 1) := by decide +kernel
theorem d_R_addFileCard_1 : decode M_R_addFileCard.2.1 1 = .ok (.bipush 70, 2) := by decide +kernel
theorem d_R_addFileCard_3 : decode M_R_addFileCard.2.1 3 = .ok (.invokevirtual 23, 3) := by decide +kernel
theorem d_R_addFileCard_6 : decode M_R_addFileCard.2.1 6 = .ok (.aload_n 0, 1) := by decide +kernel
theorem d_R_addFileCard_7 : decode M_R_addFileCard.2.1 7 = .ok (.bipush 32, 2) := by decide +kernel
theorem d_R_addFileCard_9 : decode M_R_addFileCard.2.1 9 = .ok (.invokevirtual 23, 3) := by decide +kernel
theorem d_R_addFileCard_12 : decode M_R_addFileCard.2.1 12 = .ok (.aload_n 0, 1) := by decide +kernel
theorem d_R_addFileCard_13 : decode M_R_addFileCard.2.1 13 = .ok (.bipush 48, 2) := by decide +kernel
theorem d_R_addFileCard_15 : decode M_R_addFileCard.2.1 15 = .ok (.iload_n 1, 1) := by decide +kernel
theorem d_R_addFileCard_16 : decode M_R_addFileCard.2.1 16 = .ok (.iadd, 1) := by decide +kernel
theorem d_R_addFileCard_17 : decode M_R_addFileCard.2.1 17 = .ok (.invokevirtual 23, 3) := by decide +kernel
theorem d_R_addFileCard_20 : decode M_R_addFileCard.2.1 20 = .ok (.aload_n 0, 1) := by decide +kernel
theorem d_R_addFileCard_21 : decode M_R_addFileCard.2.1 21 = .ok (.iload_n 2, 1) := by decide +kernel
theorem d_R_addFileCard_22 : decode M_R_addFileCard.2.1 22 = .ok (.invokevirtual 27, 3) := by decide +kernel
theorem d_R_addFileCard_25 : decode M_R_addFileCard.2.1 25 = .ok (.aload_n 0, 1) := by decide +kernel
theorem d_R_addFileCard_26 : decode M_R_addFileCard.2.1 26 = .ok (.bipush 10, 2) := by decide +kernel
theorem d_R_addFileCard_28 : decode M_R_addFileCard.2.1 28 = .ok (.invokevirtual 23, 3) := by decide +kernel
theorem d_R_addFileCard_31 : decode M_R_addFileCard.2.1 31 = .ok (.return_, 1) := by decide +kernel
theorem d_R_addSpaceAndName_0 : decode M_R_addSpaceAndName.2.1 0 = .ok (.aload_n 0, 1) := by decide +kernel
theorem d_R_addSpaceAndName_1 : decode M_R_addSpaceAndName.2.1 1 = .ok (.bipush 32, 2) := by decide +kernel
theorem d_R_addSpaceAndName_3 : decode M_R_addSpaceAndName.2.1 3 = .ok (.invokevirtual 23, 3) := by decide +kernel
theorem d_R_addSpaceAndName_6 : decode M_R_addSpaceAndName.2.1 6 = .ok (.iconst 5, 1) := by decide +kernel
theorem d_R_addSpaceAndName_7 : decode M_R_addSpaceAndName.2.1 7 = .ok (.istore_n 2, 1) := by decide +kernel
theorem d_R_addSpaceAndName_8 : decode M_R_addSpaceAndName.2.1 8 = .ok (.iload_n 2, 1) := by decide +kernel
theorem d_R_addSpaceAndName_9 : decode M_R_addSpaceAndName.2.1 9 = .ok (.ifCond .lt 24, 3) := by decide +kernel
theorem d_R_addSpaceAndName_12 : decode M_R_addSpaceAndName.2.1 12 = .ok (.aload_n 0, 1) := by decide +kernel
theorem d_R_addSpaceAndName_13 : decode M_R_addSpaceAndName.2.1 13 = .ok (.bipush 97, 2) := by decide +kernel
theorem d_R_addSpaceAndName_15 : decode M_R_addSpaceAndName.2.1 15 = .ok (.iload_n 1, 1) := by decide +kernel
theorem d_R_addSpaceAndName_16 : decode M_R_addSpaceAndName.2.1 16 = .ok (.iconst 4, 1) := by decide +kernel
theorem d_R_addSpaceAndName_17 : decode M_R_addSpaceAndName.2.1 17 = .ok (.iload_n 2, 1) := by decide +kernel
theorem d_R_addSpaceAndName_18 : decode M_R_addSpaceAndName.2.1 18 = .ok (.imul, 1) := by decide +kernel
theorem d_R_addSpaceAndName_19 : decode M_R_addSpaceAndName.2.1 19 = .ok (.ishr, 1) := by decide +kernel
theorem d_R_addSpaceAndName_20 : decode M_R_addSpaceAndName.2.1 20 = .ok (.bipush 15, 2) := by decide +kernel
theorem d_R_addSpaceAndName_22 : decode M_R_addSpaceAndName.2.1 22 = .ok (.iand, 1) := by decide +kernel
theorem d_R_addSpaceAndName_23 : decode M_R_addSpaceAndName.2.1 23 = .ok (.iadd, 1) := by decide +kernel
theorem d_R_addSpaceAndName_24 : decode M_R_addSpaceAndName.2.1 24 = .ok (.invokevirtual 23, 3) := by decide +kernel
theorem d_R_addSpaceAndName_27 : decode M_R_addSpaceAndName.2.1 27 = .ok (.iinc 2 (-1), 3) := by decide +kernel
theorem d_R_addSpaceAndName_30 : decode M_R_addSpaceAndName.2.1 30 = .ok (.goto (-22), 3) := by decide +kernel
theorem d_R_addSpaceAndName_33 : decode M_R_addSpaceAndName.2.1 33 = .ok (.return_, 1) := by decide +kernel
theorem d_R_addNameCard_0 : decode M_R_addNameCard.2.1 0 = .ok (.aload_n 0, 1) := by decide +kernel
theorem d_R_addNameCard_1 : decode M_R_addNameCard.2.1 1 = .ok (.iload_n 1, 1) := by decide +kernel
theorem d_R_addNameCard_2 : decode M_R_addNameCard.2.1 2 = .ok (.invokevirtual 23, 3) := by decide +kernel
theorem d_R_addNameCard_5 : decode M_R_addNameCard.2.1 5 = .ok (.aload_n 0, 1) := by decide +kernel
theorem d_R_addNameCard_6 : decode M_R_addNameCard.2.1 6 = .ok (.iload_n 2, 1) := by decide +kernel
theorem d_R_addNameCard_7 : decode M_R_addNameCard.2.1 7 = .ok (.invokevirtual 27, 3) := by decide +kernel
theorem d_R_addNameCard_10 : decode M_R_addNameCard.2.1 10 = .ok (.aload_n 0, 1) := by decide +kernel
theorem d_R_addNameCard_11 : decode M_R_addNameCard.2.1 11 = .ok (.bipush 10, 2) := by decide +kernel
theorem d_R_addNameCard_13 : decode M_R_addNameCard.2.1 13 = .ok (.invokevirtual 23, 3) := by decide +kernel
theorem d_R_addNameCard_16 : decode M_R_addNameCard.2.1 16 = .ok (.return_, 1) := by decide +kernel
theorem d_R_addParentCard_0 : decode M_R_addParentCard.2.1 0 = .ok (.aload_n 0, 1) := by decide +kernel
theorem d_R_addParentCard_1 : decode M_R_addParentCard.2.1 1 = .ok (.bipush 80, 2) := by decide +kernel
theorem d_R_addParentCard_3 : decode M_R_addParentCard.2.1 3 = .ok (.invokevirtual 23, 3) := by decide +kernel
theorem d_R_addParentCard_6 : decode M_R_addParentCard.2.1 6 = .ok (.aload_n 0, 1) := by decide +kernel
theorem d_R_addParentCard_7 : decode M_R_addParentCard.2.1 7 = .ok (.iload_n 1, 1) := by decide +kernel
theorem d_R_addParentCard_8 : decode M_R_addParentCard.2.1 8 = .ok (.invokevirtual 27, 3) := by decide +kernel
theorem d_R_addParentCard_11 : decode M_R_addParentCard.2.1 11 = .ok (.iload_n 2, 1) := by decide +kernel
theorem d_R_addParentCard_12 : decode M_R_addParentCard.2.1 12 = .ok (.iconst (-1), 1) := by decide +kernel
theorem d_R_addParentCard_13 : decode M_R_addParentCard.2.1 13 = .ok (.if_icmp .eq 8, 3) := by decide +kernel
theorem d_R_addParentCard_16 : decode M_R_addParentCard.2.1 16 = .ok (.aload_n 0, 1) := by decide +kernel
theorem d_R_addParentCard_17 : decode M_R_addParentCard.2.1 17 = .ok (.iload_n 2, 1) := by decide +kernel
theorem d_R_addParentCard_18 : decode M_R_addParentCard.2.1 18 = .ok (.invokevirtual 27, 3) := by decide +kernel
theorem d_R_addParentCard_21 : decode M_R_addParentCard.2.1 21 = .ok (.aload_n 0, 1) := by decide +kernel
theorem d_R_addParentCard_22 : decode M_R_addParentCard.2.1 22 = .ok (.bipush 10, 2) := by decide +kernel
theorem d_R_addParentCard_24 : decode M_R_addParentCard.2.1 24 = .ok (.invokevirtual 23, 3) := by decide +kernel
theorem d_R_addParentCard_27 : decode M_R_addParentCard.2.1 27 = .ok (.return_, 1) := by decide +kernel
theorem d_R_addTagCard_0 : decode M_R_addTagCard.2.1 0 = .ok (.aload_n 0, 1) := by decide +kernel
theorem d_R_addTagCard_1 : decode M_R_addTagCard.2.1 1 = .ok (.bipush 84, 2) := by decide +kernel
theorem d_R_addTagCard_3 : decode M_R_addTagCard.2.1 3 = .ok (.invokevirtual 23, 3) := by decide +kernel
theorem d_R_addTagCard_6 : decode M_R_addTagCard.2.1 6 = .ok (.aload_n 0, 1) := by decide +kernel
theorem d_R_addTagCard_7 : decode M_R_addTagCard.2.1 7 = .ok (.bipush 32, 2) := by decide +kernel
theorem d_R_addTagCard_9 : decode M_R_addTagCard.2.1 9 = .ok (.invokevirtual 23, 3) := by decide +kernel
theorem d_R_addTagCard_12 : decode M_R_addTagCard.2.1 12 = .ok (.aload_n 0, 1) := by decide +kernel
theorem d_R_addTagCard_13 : decode M_R_addTagCard.2.1 13 = .ok (.iload_n 1, 1) := by decide +kernel
theorem d_R_addTagCard_14 : decode M_R_addTagCard.2.1 14 = .ok (.ifCond .lt 8, 3) := by decide +kernel
theorem d_R_addTagCard_17 : decode M_R_addTagCard.2.1 17 = .ok (.bipush 43, 2) := by decide +kernel
theorem d_R_addTagCard_19 : decode M_R_addTagCard.2.1 19 = .ok (.goto 5, 3) := by decide +kernel
theorem d_R_addTagCard_22 : decode M_R_addTagCard.2.1 22 = .ok (.bipush 45, 2) := by decide +kernel
theorem d_R_addTagCard_24 : decode M_R_addTagCard.2.1 24 = .ok (.invokevirtual 23, 3) := by decide +kernel
theorem d_R_addTagCard_27 : decode M_R_addTagCard.2.1 27 = .ok (.aload_n 0, 1) := by decide +kernel
theorem d_R_addTagCard_28 : decode M_R_addTagCard.2.1 28 = .ok (.bipush 48, 2) := by decide +kernel
theorem d_R_addTagCard_30 : decode M_R_addTagCard.2.1 30 = .ok (.iload_n 1, 1) := by decide +kernel
theorem d_R_addTagCard_31 : decode M_R_addTagCard.2.1 31 = .ok (.ifCond .lt 7, 3) := by decide +kernel
theorem d_R_addTagCard_34 : decode M_R_addTagCard.2.1 34 = .ok (.iload_n 1, 1) := by decide +kernel
theorem d_R_addTagCard_35 : decode M_R_addTagCard.2.1 35 = .ok (.goto 6, 3) := by decide +kernel
theorem d_R_addTagCard_38 : decode M_R_addTagCard.2.1 38 = .ok (.iconst (-1), 1) := by decide +kernel
theorem d_R_addTagCard_39 : decode M_R_addTagCard.2.1 39 = .ok (.iload_n 1, 1) := by decide +kernel
theorem d_R_addTagCard_40 : decode M_R_addTagCard.2.1 40 = .ok (.isub, 1) := by decide +kernel
theorem d_R_addTagCard_41 : decode M_R_addTagCard.2.1 41 = .ok (.iadd, 1) := by decide +kernel
theorem d_R_addTagCard_42 : decode M_R_addTagCard.2.1 42 = .ok (.invokevirtual 23, 3) := by decide +kernel
theorem d_R_addTagCard_45 : decode M_R_addTagCard.2.1 45 = .ok (.iload_n 2, 1) := by decide +kernel
theorem d_R_addTagCard_46 : decode M_R_addTagCard.2.1 46 = .ok (.iconst (-1), 1) := by decide +kernel
theorem d_R_addTagCard_47 : decode M_R_addTagCard.2.1 47 = .ok (.if_icmp .ne 18, 3) := by decide +kernel
theorem d_R_addTagCard_50 : decode M_R_addTagCard.2.1 50 = .ok (.aload_n 0, 1) := by decide +kernel
theorem d_R_addTagCard_51 : decode M_R_addTagCard.2.1 51 = .ok (.bipush 32, 2) := by decide +kernel
theorem d_R_addTagCard_53 : decode M_R_addTagCard.2.1 53 = .ok (.invokevirtual 23, 3) := by decide +kernel
theorem d_R_addTagCard_56 : decode M_R_addTagCard.2.1 56 = .ok (.aload_n 0, 1) := by decide +kernel
theorem d_R_addTagCard_57 : decode M_R_addTagCard.2.1 57 = .ok (.bipush 42, 2) := by decide +kernel
theorem d_R_addTagCard_59 : decode M_R_addTagCard.2.1 59 = .ok (.invokevirtual 23, 3) := by decide +kernel
theorem d_R_addTagCard_62 : decode M_R_addTagCard.2.1 62 = .ok (.goto 8, 3) := by decide +kernel
theorem d_R_addTagCard_65 : decode M_R_addTagCard.2.1 65 = .ok (.aload_n 0, 1) := by decide +kernel
theorem d_R_addTagCard_66 : decode M_R_addTagCard.2.1 66 = .ok (.iload_n 2, 1) := by decide +kernel
theorem d_R_addTagCard_67 : decode M_R_addTagCard.2.1 67 = .ok (.invokevirtual 27, 3) := by decide +kernel
theorem d_R_addTagCard_70 : decode M_R_addTagCard.2.1 70 = .ok (.aload_n 0, 1) := by decide +kernel
theorem d_R_addTagCard_71 : decode M_R_addTagCard.2.1 71 = .ok (.bipush 10, 2) := by decide +kernel
theorem d_R_addTagCard_73 : decode M_R_addTagCard.2.1 73 = .ok (.invokevirtual 23, 3) := by decide +kernel
theorem d_R_addTagCard_76 : decode M_R_addTagCard.2.1 76 = .ok (.return_, 1) := by decide +kernel
theorem d_R_digest_0 : decode M_R_digest.2.1 0 = .ok (.bipush 7, 2) := by decide +kernel
theorem d_R_digest_2 : decode M_R_digest.2.1 2 = .ok (.aload_n 0, 1) := by decide +kernel
theorem d_R_digest_3 : decode M_R_digest.2.1 3 = .ok (.getfield 9, 3) := by decide +kernel
theorem d_R_digest_6 : decode M_R_digest.2.1 6 = .ok (.aload_n 0, 1) := by decide +kernel
theorem d_R_digest_7 : decode M_R_digest.2.1 7 = .ok (.getfield 15, 3) := by decide +kernel
theorem d_R_digest_10 : decode M_R_digest.2.1 10 = .ok (.invokestatic 19, 3) := by decide +kernel
theorem d_R_digest_13 : decode M_R_digest.2.1 13 = .ok (.ireturn, 1) := by decide +kernel
theorem d_B_digestAfter_0 : decode M_B_digestAfter.2.1 0 = .ok (.iload_n 0, 1) := by decide +kernel
theorem d_B_digestAfter_1 : decode M_B_digestAfter.2.1 1 = .ok (.i2l, 1) := by decide +kernel
theorem d_B_digestAfter_2 : decode M_B_digestAfter.2.1 2 = .ok (.lstore_n 3, 1) := by decide +kernel
theorem d_B_digestAfter_3 : decode M_B_digestAfter.2.1 3 = .ok (.iconst 0, 1) := by decide +kernel
theorem d_B_digestAfter_4 : decode M_B_digestAfter.2.1 4 = .ok (.istore 5, 2) := by decide +kernel
theorem d_B_digestAfter_6 : decode M_B_digestAfter.2.1 6 = .ok (.iload 5, 2) := by decide +kernel
theorem d_B_digestAfter_8 : decode M_B_digestAfter.2.1 8 = .ok (.iload_n 2, 1) := by decide +kernel
theorem d_B_digestAfter_9 : decode M_B_digestAfter.2.1 9 = .ok (.if_icmp .ge 31, 3) := by decide +kernel
theorem d_B_digestAfter_12 : decode M_B_digestAfter.2.1 12 = .ok (.ldc2_w 186, 3) := by decide +kernel
theorem d_B_digestAfter_15 : decode M_B_digestAfter.2.1 15 = .ok (.lload_n 3, 1) := by decide +kernel
theorem d_B_digestAfter_16 : decode M_B_digestAfter.2.1 16 = .ok (.lmul, 1) := by decide +kernel
theorem d_B_digestAfter_17 : decode M_B_digestAfter.2.1 17 = .ok (.aload_n 1, 1) := by decide +kernel
theorem d_B_digestAfter_18 : decode M_B_digestAfter.2.1 18 = .ok (.iload 5, 2) := by decide +kernel
theorem d_B_digestAfter_20 : decode M_B_digestAfter.2.1 20 = .ok (.baload, 1) := by decide +kernel
theorem d_B_digestAfter_21 : decode M_B_digestAfter.2.1 21 = .ok (.sipush 255, 3) := by decide +kernel
theorem d_B_digestAfter_24 : decode M_B_digestAfter.2.1 24 = .ok (.iand, 1) := by decide +kernel
theorem d_B_digestAfter_25 : decode M_B_digestAfter.2.1 25 = .ok (.i2l, 1) := by decide +kernel
theorem d_B_digestAfter_26 : decode M_B_digestAfter.2.1 26 = .ok (.ladd, 1) := by decide +kernel
theorem d_B_digestAfter_27 : decode M_B_digestAfter.2.1 27 = .ok (.lconst 1, 1) := by decide +kernel
theorem d_B_digestAfter_28 : decode M_B_digestAfter.2.1 28 = .ok (.ladd, 1) := by decide +kernel
theorem d_B_digestAfter_29 : decode M_B_digestAfter.2.1 29 = .ok (.ldc2_w 188, 3) := by decide +kernel
theorem d_B_digestAfter_32 : decode M_B_digestAfter.2.1 32 = .ok (.lrem, 1) := by decide +kernel
theorem d_B_digestAfter_33 : decode M_B_digestAfter.2.1 33 = .ok (.lstore_n 3, 1) := by decide +kernel
theorem d_B_digestAfter_34 : decode M_B_digestAfter.2.1 34 = .ok (.iinc 5 1, 3) := by decide +kernel
theorem d_B_digestAfter_37 : decode M_B_digestAfter.2.1 37 = .ok (.goto (-31), 3) := by decide +kernel
theorem d_B_digestAfter_40 : decode M_B_digestAfter.2.1 40 = .ok (.lload_n 3, 1) := by decide +kernel
theorem d_B_digestAfter_41 : decode M_B_digestAfter.2.1 41 = .ok (.l2i, 1) := by decide +kernel
theorem d_B_digestAfter_42 : decode M_B_digestAfter.2.1 42 = .ok (.ireturn, 1) := by decide +kernel
theorem d_R_hasRoomFor_0 : decode M_R_hasRoomFor.2.1 0 = .ok (.aload_n 0, 1) := by decide +kernel
theorem d_R_hasRoomFor_1 : decode M_R_hasRoomFor.2.1 1 = .ok (.getfield 15, 3) := by decide +kernel
theorem d_R_hasRoomFor_4 : decode M_R_hasRoomFor.2.1 4 = .ok (.iload_n 1, 1) := by decide +kernel
theorem d_R_hasRoomFor_5 : decode M_R_hasRoomFor.2.1 5 = .ok (.iadd, 1) := by decide +kernel
theorem d_R_hasRoomFor_6 : decode M_R_hasRoomFor.2.1 6 = .ok (.sipush 240, 3) := by decide +kernel
theorem d_R_hasRoomFor_9 : decode M_R_hasRoomFor.2.1 9 = .ok (.if_icmp .gt 7, 3) := by decide +kernel
theorem d_R_hasRoomFor_12 : decode M_R_hasRoomFor.2.1 12 = .ok (.iconst 1, 1) := by decide +kernel
theorem d_R_hasRoomFor_13 : decode M_R_hasRoomFor.2.1 13 = .ok (.goto 4, 3) := by decide +kernel
theorem d_R_hasRoomFor_16 : decode M_R_hasRoomFor.2.1 16 = .ok (.iconst 0, 1) := by decide +kernel
theorem d_R_hasRoomFor_17 : decode M_R_hasRoomFor.2.1 17 = .ok (.ireturn, 1) := by decide +kernel
theorem d_R_addRow_0 : decode M_R_addRow.2.1 0 = .ok (.iconst 0, 1) := by decide +kernel
theorem d_R_addRow_1 : decode M_R_addRow.2.1 1 = .ok (.istore_n 2, 1) := by decide +kernel
theorem d_R_addRow_2 : decode M_R_addRow.2.1 2 = .ok (.iload_n 2, 1) := by decide +kernel
theorem d_R_addRow_3 : decode M_R_addRow.2.1 3 = .ok (.aload_n 1, 1) := by decide +kernel
theorem d_R_addRow_4 : decode M_R_addRow.2.1 4 = .ok (.getfield 15, 3) := by decide +kernel
theorem d_R_addRow_7 : decode M_R_addRow.2.1 7 = .ok (.if_icmp .ge 19, 3) := by decide +kernel
theorem d_R_addRow_10 : decode M_R_addRow.2.1 10 = .ok (.aload_n 0, 1) := by decide +kernel
theorem d_R_addRow_11 : decode M_R_addRow.2.1 11 = .ok (.aload_n 1, 1) := by decide +kernel
theorem d_R_addRow_12 : decode M_R_addRow.2.1 12 = .ok (.getfield 9, 3) := by decide +kernel
theorem d_R_addRow_15 : decode M_R_addRow.2.1 15 = .ok (.iload_n 2, 1) := by decide +kernel
theorem d_R_addRow_16 : decode M_R_addRow.2.1 16 = .ok (.baload, 1) := by decide +kernel
theorem d_R_addRow_17 : decode M_R_addRow.2.1 17 = .ok (.invokevirtual 23, 3) := by decide +kernel
theorem d_R_addRow_20 : decode M_R_addRow.2.1 20 = .ok (.iinc 2 1, 3) := by decide +kernel
theorem d_R_addRow_23 : decode M_R_addRow.2.1 23 = .ok (.goto (-21), 3) := by decide +kernel
theorem d_R_addRow_26 : decode M_R_addRow.2.1 26 = .ok (.return_, 1) := by decide +kernel
theorem d_B_raw_0 : decode M_B_raw.2.1 0 = .ok (.iload_n 3, 1) := by decide +kernel
theorem d_B_raw_1 : decode M_B_raw.2.1 1 = .ok (.iconst 1, 1) := by decide +kernel
theorem d_B_raw_2 : decode M_B_raw.2.1 2 = .ok (.if_icmp .lt 20, 3) := by decide +kernel
theorem d_B_raw_5 : decode M_B_raw.2.1 5 = .ok (.iload_n 3, 1) := by decide +kernel
theorem d_B_raw_6 : decode M_B_raw.2.1 6 = .ok (.bipush 8, 2) := by decide +kernel
theorem d_B_raw_8 : decode M_B_raw.2.1 8 = .ok (.if_icmp .gt 14, 3) := by decide +kernel
theorem d_B_raw_11 : decode M_B_raw.2.1 11 = .ok (.aload_n 0, 1) := by decide +kernel
theorem d_B_raw_12 : decode M_B_raw.2.1 12 = .ok (.getfield 22, 3) := by decide +kernel
theorem d_B_raw_15 : decode M_B_raw.2.1 15 = .ok (.iload_n 3, 1) := by decide +kernel
theorem d_B_raw_16 : decode M_B_raw.2.1 16 = .ok (.invokevirtual 44, 3) := by decide +kernel
theorem d_B_raw_19 : decode M_B_raw.2.1 19 = .ok (.ifCond .ne 5, 3) := by decide +kernel
theorem d_B_raw_22 : decode M_B_raw.2.1 22 = .ok (.iconst (-1), 1) := by decide +kernel
theorem d_B_raw_23 : decode M_B_raw.2.1 23 = .ok (.ireturn, 1) := by decide +kernel
theorem d_B_raw_24 : decode M_B_raw.2.1 24 = .ok (.iconst 0, 1) := by decide +kernel
theorem d_B_raw_25 : decode M_B_raw.2.1 25 = .ok (.istore 4, 2) := by decide +kernel
theorem d_B_raw_27 : decode M_B_raw.2.1 27 = .ok (.iload 4, 2) := by decide +kernel
theorem d_B_raw_29 : decode M_B_raw.2.1 29 = .ok (.iload_n 3, 1) := by decide +kernel
theorem d_B_raw_30 : decode M_B_raw.2.1 30 = .ok (.if_icmp .ge 24, 3) := by decide +kernel
theorem d_B_raw_33 : decode M_B_raw.2.1 33 = .ok (.aload_n 0, 1) := by decide +kernel
theorem d_B_raw_34 : decode M_B_raw.2.1 34 = .ok (.getfield 22, 3) := by decide +kernel
theorem d_B_raw_37 : decode M_B_raw.2.1 37 = .ok (.lload_n 1, 1) := by decide +kernel
theorem d_B_raw_38 : decode M_B_raw.2.1 38 = .ok (.bipush 8, 2) := by decide +kernel
theorem d_B_raw_40 : decode M_B_raw.2.1 40 = .ok (.iload 4, 2) := by decide +kernel
theorem d_B_raw_42 : decode M_B_raw.2.1 42 = .ok (.imul, 1) := by decide +kernel
theorem d_B_raw_43 : decode M_B_raw.2.1 43 = .ok (.lushr, 1) := by decide +kernel
theorem d_B_raw_44 : decode M_B_raw.2.1 44 = .ok (.l2i, 1) := by decide +kernel
theorem d_B_raw_45 : decode M_B_raw.2.1 45 = .ok (.invokevirtual 52, 3) := by decide +kernel
theorem d_B_raw_48 : decode M_B_raw.2.1 48 = .ok (.iinc 4 1, 3) := by decide +kernel
theorem d_B_raw_51 : decode M_B_raw.2.1 51 = .ok (.goto (-24), 3) := by decide +kernel
theorem d_B_raw_54 : decode M_B_raw.2.1 54 = .ok (.aload_n 0, 1) := by decide +kernel
theorem d_B_raw_55 : decode M_B_raw.2.1 55 = .ok (.getfield 22, 3) := by decide +kernel
theorem d_B_raw_58 : decode M_B_raw.2.1 58 = .ok (.getfield 40, 3) := by decide +kernel
theorem d_B_raw_61 : decode M_B_raw.2.1 61 = .ok (.ireturn, 1) := by decide +kernel
theorem d_B_drop_0 : decode M_B_drop.2.1 0 = .ok (.aload_n 0, 1) := by decide +kernel
theorem d_B_drop_1 : decode M_B_drop.2.1 1 = .ok (.getfield 22, 3) := by decide +kernel
theorem d_B_drop_4 : decode M_B_drop.2.1 4 = .ok (.getfield 40, 3) := by decide +kernel
theorem d_B_drop_7 : decode M_B_drop.2.1 7 = .ok (.istore_n 1, 1) := by decide +kernel
theorem d_B_drop_8 : decode M_B_drop.2.1 8 = .ok (.aload_n 0, 1) := by decide +kernel
theorem d_B_drop_9 : decode M_B_drop.2.1 9 = .ok (.getfield 22, 3) := by decide +kernel
theorem d_B_drop_12 : decode M_B_drop.2.1 12 = .ok (.invokevirtual 33, 3) := by decide +kernel
theorem d_B_drop_15 : decode M_B_drop.2.1 15 = .ok (.iload_n 1, 1) := by decide +kernel
theorem d_B_drop_16 : decode M_B_drop.2.1 16 = .ok (.ireturn, 1) := by decide +kernel
theorem d_B_files_0 : decode M_B_files.2.1 0 = .ok (.aload_n 0, 1) := by decide +kernel
theorem d_B_files_1 : decode M_B_files.2.1 1 = .ok (.iload_n 1, 1) := by decide +kernel
theorem d_B_files_2 : decode M_B_files.2.1 2 = .ok (.invokevirtual 56, 3) := by decide +kernel
theorem d_B_files_5 : decode M_B_files.2.1 5 = .ok (.astore_n 2, 1) := by decide +kernel
theorem d_B_files_6 : decode M_B_files.2.1 6 = .ok (.aload_n 2, 1) := by decide +kernel
theorem d_B_files_7 : decode M_B_files.2.1 7 = .ok (.ifnonnull 5, 3) := by decide +kernel
theorem d_B_files_10 : decode M_B_files.2.1 10 = .ok (.iconst (-1), 1) := by decide +kernel
theorem d_B_files_11 : decode M_B_files.2.1 11 = .ok (.ireturn, 1) := by decide +kernel
theorem d_B_files_12 : decode M_B_files.2.1 12 = .ok (.bipush 7, 2) := by decide +kernel
theorem d_B_files_14 : decode M_B_files.2.1 14 = .ok (.istore_n 3, 1) := by decide +kernel
theorem d_B_files_15 : decode M_B_files.2.1 15 = .ok (.iconst 0, 1) := by decide +kernel
theorem d_B_files_16 : decode M_B_files.2.1 16 = .ok (.istore 4, 2) := by decide +kernel
theorem d_B_files_18 : decode M_B_files.2.1 18 = .ok (.iconst 0, 1) := by decide +kernel
theorem d_B_files_19 : decode M_B_files.2.1 19 = .ok (.istore 5, 2) := by decide +kernel
theorem d_B_files_21 : decode M_B_files.2.1 21 = .ok (.iload 5, 2) := by decide +kernel
theorem d_B_files_23 : decode M_B_files.2.1 23 = .ok (.aload_n 0, 1) := by decide +kernel
theorem d_B_files_24 : decode M_B_files.2.1 24 = .ok (.getfield 22, 3) := by decide +kernel
theorem d_B_files_27 : decode M_B_files.2.1 27 = .ok (.getfield 40, 3) := by decide +kernel
theorem d_B_files_30 : decode M_B_files.2.1 30 = .ok (.if_icmp .ge 55, 3) := by decide +kernel
theorem d_B_files_33 : decode M_B_files.2.1 33 = .ok (.iload_n 3, 1) := by decide +kernel
theorem d_B_files_34 : decode M_B_files.2.1 34 = .ok (.iconst (-1), 1) := by decide +kernel
theorem d_B_files_35 : decode M_B_files.2.1 35 = .ok (.if_icmp .eq 50, 3) := by decide +kernel
theorem d_B_files_38 : decode M_B_files.2.1 38 = .ok (.aload_n 0, 1) := by decide +kernel
theorem d_B_files_39 : decode M_B_files.2.1 39 = .ok (.getfield 22, 3) := by decide +kernel
theorem d_B_files_42 : decode M_B_files.2.1 42 = .ok (.getfield 60, 3) := by decide +kernel
theorem d_B_files_45 : decode M_B_files.2.1 45 = .ok (.iload 5, 2) := by decide +kernel
theorem d_B_files_47 : decode M_B_files.2.1 47 = .ok (.baload, 1) := by decide +kernel
theorem d_B_files_48 : decode M_B_files.2.1 48 = .ok (.bipush 10, 2) := by decide +kernel
theorem d_B_files_50 : decode M_B_files.2.1 50 = .ok (.if_icmp .ne 29, 3) := by decide +kernel
theorem d_B_files_53 : decode M_B_files.2.1 53 = .ok (.aload_n 2, 1) := by decide +kernel
theorem d_B_files_54 : decode M_B_files.2.1 54 = .ok (.iload_n 3, 1) := by decide +kernel
theorem d_B_files_55 : decode M_B_files.2.1 55 = .ok (.aload_n 0, 1) := by decide +kernel
theorem d_B_files_56 : decode M_B_files.2.1 56 = .ok (.getfield 22, 3) := by decide +kernel
theorem d_B_files_59 : decode M_B_files.2.1 59 = .ok (.getfield 60, 3) := by decide +kernel
theorem d_B_files_62 : decode M_B_files.2.1 62 = .ok (.iload 4, 2) := by decide +kernel
theorem d_B_files_64 : decode M_B_files.2.1 64 = .ok (.iload 5, 2) := by decide +kernel
theorem d_B_files_66 : decode M_B_files.2.1 66 = .ok (.invokestatic 64, 3) := by decide +kernel
theorem d_B_files_69 : decode M_B_files.2.1 69 = .ok (.invokevirtual 70, 3) := by decide +kernel
theorem d_B_files_72 : decode M_B_files.2.1 72 = .ok (.istore_n 3, 1) := by decide +kernel
theorem d_B_files_73 : decode M_B_files.2.1 73 = .ok (.iload 5, 2) := by decide +kernel
theorem d_B_files_75 : decode M_B_files.2.1 75 = .ok (.iconst 1, 1) := by decide +kernel
theorem d_B_files_76 : decode M_B_files.2.1 76 = .ok (.iadd, 1) := by decide +kernel
theorem d_B_files_77 : decode M_B_files.2.1 77 = .ok (.istore 4, 2) := by decide +kernel
theorem d_B_files_79 : decode M_B_files.2.1 79 = .ok (.iinc 5 1, 3) := by decide +kernel
theorem d_B_files_82 : decode M_B_files.2.1 82 = .ok (.goto (-61), 3) := by decide +kernel
theorem d_B_files_85 : decode M_B_files.2.1 85 = .ok (.iload_n 3, 1) := by decide +kernel
theorem d_B_files_86 : decode M_B_files.2.1 86 = .ok (.ireturn, 1) := by decide +kernel
theorem d_B_bagOf_0 : decode M_B_bagOf.2.1 0 = .ok (.iload_n 1, 1) := by decide +kernel
theorem d_B_bagOf_1 : decode M_B_bagOf.2.1 1 = .ok (.ifCond .ne 8, 3) := by decide +kernel
theorem d_B_bagOf_4 : decode M_B_bagOf.2.1 4 = .ok (.aload_n 0, 1) := by decide +kernel
theorem d_B_bagOf_5 : decode M_B_bagOf.2.1 5 = .ok (.getfield 10, 3) := by decide +kernel
theorem d_B_bagOf_8 : decode M_B_bagOf.2.1 8 = .ok (.areturn, 1) := by decide +kernel
theorem d_B_bagOf_9 : decode M_B_bagOf.2.1 9 = .ok (.iload_n 1, 1) := by decide +kernel
theorem d_B_bagOf_10 : decode M_B_bagOf.2.1 10 = .ok (.iconst 1, 1) := by decide +kernel
theorem d_B_bagOf_11 : decode M_B_bagOf.2.1 11 = .ok (.if_icmp .ne 10, 3) := by decide +kernel
theorem d_B_bagOf_14 : decode M_B_bagOf.2.1 14 = .ok (.aload_n 0, 1) := by decide +kernel
theorem d_B_bagOf_15 : decode M_B_bagOf.2.1 15 = .ok (.getfield 16, 3) := by decide +kernel
theorem d_B_bagOf_18 : decode M_B_bagOf.2.1 18 = .ok (.goto 4, 3) := by decide +kernel
theorem d_B_bagOf_21 : decode M_B_bagOf.2.1 21 = .ok (.aconst_null, 1) := by decide +kernel
theorem d_B_bagOf_22 : decode M_B_bagOf.2.1 22 = .ok (.areturn, 1) := by decide +kernel
theorem d_C_read_0 : decode M_C_read.2.1 0 = .ok (.iload_n 2, 1) := by decide +kernel
theorem d_C_read_1 : decode M_C_read.2.1 1 = .ok (.iload_n 1, 1) := by decide +kernel
theorem d_C_read_2 : decode M_C_read.2.1 2 = .ok (.isub, 1) := by decide +kernel
theorem d_C_read_3 : decode M_C_read.2.1 3 = .ok (.iconst 3, 1) := by decide +kernel
theorem d_C_read_4 : decode M_C_read.2.1 4 = .ok (.if_icmp .lt 13, 3) := by decide +kernel
theorem d_C_read_7 : decode M_C_read.2.1 7 = .ok (.aload_n 0, 1) := by decide +kernel
theorem d_C_read_8 : decode M_C_read.2.1 8 = .ok (.iload_n 1, 1) := by decide +kernel
theorem d_C_read_9 : decode M_C_read.2.1 9 = .ok (.iconst 1, 1) := by decide +kernel
theorem d_C_read_10 : decode M_C_read.2.1 10 = .ok (.iadd, 1) := by decide +kernel
theorem d_C_read_11 : decode M_C_read.2.1 11 = .ok (.baload, 1) := by decide +kernel
theorem d_C_read_12 : decode M_C_read.2.1 12 = .ok (.bipush 32, 2) := by decide +kernel
theorem d_C_read_14 : decode M_C_read.2.1 14 = .ok (.if_icmp .eq 5, 3) := by decide +kernel
theorem d_C_read_17 : decode M_C_read.2.1 17 = .ok (.aconst_null, 1) := by decide +kernel
theorem d_C_read_18 : decode M_C_read.2.1 18 = .ok (.areturn, 1) := by decide +kernel
theorem d_C_read_19 : decode M_C_read.2.1 19 = .ok (.aload_n 0, 1) := by decide +kernel
theorem d_C_read_20 : decode M_C_read.2.1 20 = .ok (.iload_n 1, 1) := by decide +kernel
theorem d_C_read_21 : decode M_C_read.2.1 21 = .ok (.baload, 1) := by decide +kernel
theorem d_C_read_22 : decode M_C_read.2.1 22 = .ok (.istore_n 3, 1) := by decide +kernel
theorem d_C_read_23 : decode M_C_read.2.1 23 = .ok (.iload_n 3, 1) := by decide +kernel
theorem d_C_read_24 : decode M_C_read.2.1 24 = .ok (.tableswitch 174 68 90 #[108, 174, 117, 174, 174, 174, 174, 174, 174, 126, 174, 174, 136, 174, 126, 174, 165, 174, 174, 174, 174, 174, 126], 108) := by decide +kernel
theorem d_C_read_132 : decode M_C_read.2.1 132 = .ok (.aload_n 0, 1) := by decide +kernel
theorem d_C_read_133 : decode M_C_read.2.1 133 = .ok (.iload_n 1, 1) := by decide +kernel
theorem d_C_read_134 : decode M_C_read.2.1 134 = .ok (.iconst 2, 1) := by decide +kernel
theorem d_C_read_135 : decode M_C_read.2.1 135 = .ok (.iadd, 1) := by decide +kernel
theorem d_C_read_136 : decode M_C_read.2.1 136 = .ok (.iload_n 2, 1) := by decide +kernel
theorem d_C_read_137 : decode M_C_read.2.1 137 = .ok (.invokestatic 28, 3) := by decide +kernel
theorem d_C_read_140 : decode M_C_read.2.1 140 = .ok (.areturn, 1) := by decide +kernel
theorem d_C_read_141 : decode M_C_read.2.1 141 = .ok (.aload_n 0, 1) := by decide +kernel
theorem d_C_read_142 : decode M_C_read.2.1 142 = .ok (.iload_n 1, 1) := by decide +kernel
theorem d_C_read_143 : decode M_C_read.2.1 143 = .ok (.iconst 2, 1) := by decide +kernel
theorem d_C_read_144 : decode M_C_read.2.1 144 = .ok (.iadd, 1) := by decide +kernel
theorem d_C_read_145 : decode M_C_read.2.1 145 = .ok (.iload_n 2, 1) := by decide +kernel
theorem d_C_read_146 : decode M_C_read.2.1 146 = .ok (.invokestatic 32, 3) := by decide +kernel
theorem d_C_read_149 : decode M_C_read.2.1 149 = .ok (.areturn, 1) := by decide +kernel
theorem d_C_read_150 : decode M_C_read.2.1 150 = .ok (.iload_n 3, 1) := by decide +kernel
theorem d_C_read_151 : decode M_C_read.2.1 151 = .ok (.aload_n 0, 1) := by decide +kernel
theorem d_C_read_152 : decode M_C_read.2.1 152 = .ok (.iload_n 1, 1) := by decide +kernel
theorem d_C_read_153 : decode M_C_read.2.1 153 = .ok (.iconst 2, 1) := by decide +kernel
theorem d_C_read_154 : decode M_C_read.2.1 154 = .ok (.iadd, 1) := by decide +kernel
theorem d_C_read_155 : decode M_C_read.2.1 155 = .ok (.iload_n 2, 1) := by decide +kernel
theorem d_C_read_156 : decode M_C_read.2.1 156 = .ok (.invokestatic 35, 3) := by decide +kernel
theorem d_C_read_159 : decode M_C_read.2.1 159 = .ok (.areturn, 1) := by decide +kernel
theorem d_C_read_160 : decode M_C_read.2.1 160 = .ok (.iload_n 2, 1) := by decide +kernel
theorem d_C_read_161 : decode M_C_read.2.1 161 = .ok (.iload_n 1, 1) := by decide +kernel
theorem d_C_read_162 : decode M_C_read.2.1 162 = .ok (.isub, 1) := by decide +kernel
theorem d_C_read_163 : decode M_C_read.2.1 163 = .ok (.bipush 8, 2) := by decide +kernel
theorem d_C_read_165 : decode M_C_read.2.1 165 = .ok (.if_icmp .ne 15, 3) := by decide +kernel
theorem d_C_read_168 : decode M_C_read.2.1 168 = .ok (.iload_n 3, 1) := by decide +kernel
theorem d_C_read_169 : decode M_C_read.2.1 169 = .ok (.aload_n 0, 1) := by decide +kernel
theorem d_C_read_170 : decode M_C_read.2.1 170 = .ok (.iload_n 1, 1) := by decide +kernel
theorem d_C_read_171 : decode M_C_read.2.1 171 = .ok (.iconst 2, 1) := by decide +kernel
theorem d_C_read_172 : decode M_C_read.2.1 172 = .ok (.iadd, 1) := by decide +kernel
theorem d_C_read_173 : decode M_C_read.2.1 173 = .ok (.iload_n 2, 1) := by decide +kernel
theorem d_C_read_174 : decode M_C_read.2.1 174 = .ok (.invokestatic 35, 3) := by decide +kernel
theorem d_C_read_177 : decode M_C_read.2.1 177 = .ok (.goto 11, 3) := by decide +kernel
theorem d_C_read_180 : decode M_C_read.2.1 180 = .ok (.aload_n 0, 1) := by decide +kernel
theorem d_C_read_181 : decode M_C_read.2.1 181 = .ok (.iload_n 1, 1) := by decide +kernel
theorem d_C_read_182 : decode M_C_read.2.1 182 = .ok (.iconst 2, 1) := by decide +kernel
theorem d_C_read_183 : decode M_C_read.2.1 183 = .ok (.iadd, 1) := by decide +kernel
theorem d_C_read_184 : decode M_C_read.2.1 184 = .ok (.iload_n 2, 1) := by decide +kernel
theorem d_C_read_185 : decode M_C_read.2.1 185 = .ok (.invokestatic 39, 3) := by decide +kernel
theorem d_C_read_188 : decode M_C_read.2.1 188 = .ok (.areturn, 1) := by decide +kernel
theorem d_C_read_189 : decode M_C_read.2.1 189 = .ok (.aload_n 0, 1) := by decide +kernel
theorem d_C_read_190 : decode M_C_read.2.1 190 = .ok (.iload_n 1, 1) := by decide +kernel
theorem d_C_read_191 : decode M_C_read.2.1 191 = .ok (.iconst 2, 1) := by decide +kernel
theorem d_C_read_192 : decode M_C_read.2.1 192 = .ok (.iadd, 1) := by decide +kernel
theorem d_C_read_193 : decode M_C_read.2.1 193 = .ok (.iload_n 2, 1) := by decide +kernel
theorem d_C_read_194 : decode M_C_read.2.1 194 = .ok (.invokestatic 42, 3) := by decide +kernel
theorem d_C_read_197 : decode M_C_read.2.1 197 = .ok (.areturn, 1) := by decide +kernel
theorem d_C_read_198 : decode M_C_read.2.1 198 = .ok (.aconst_null, 1) := by decide +kernel
theorem d_C_read_199 : decode M_C_read.2.1 199 = .ok (.areturn, 1) := by decide +kernel

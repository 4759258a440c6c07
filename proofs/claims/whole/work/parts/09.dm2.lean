/-! Decode rows. Own work. -/
theorem d_m_has_0 : decode M_m_has.2.1 0 = .ok (.iconst 0, 1) := by decide +kernel
theorem d_m_has_1 : decode M_m_has.2.1 1 = .ok (.istore 4, 2) := by decide +kernel
theorem d_m_has_3 : decode M_m_has.2.1 3 = .ok (.iconst 0, 1) := by decide +kernel
theorem d_m_has_4 : decode M_m_has.2.1 4 = .ok (.istore 5, 2) := by decide +kernel
theorem d_m_has_6 : decode M_m_has.2.1 6 = .ok (.iload 5, 2) := by decide +kernel
theorem d_m_has_8 : decode M_m_has.2.1 8 = .ok (.aload_n 0, 1) := by decide +kernel
theorem d_m_has_9 : decode M_m_has.2.1 9 = .ok (.getfield 13, 3) := by decide +kernel
theorem d_m_has_12 : decode M_m_has.2.1 12 = .ok (.iload_n 1, 1) := by decide +kernel
theorem d_m_has_13 : decode M_m_has.2.1 13 = .ok (.iaload, 1) := by decide +kernel
theorem d_m_has_14 : decode M_m_has.2.1 14 = .ok (.if_icmp .ge 58, 3) := by decide +kernel
theorem d_m_has_17 : decode M_m_has.2.1 17 = .ok (.iload 4, 2) := by decide +kernel
theorem d_m_has_19 : decode M_m_has.2.1 19 = .ok (.ifCond .ne 53, 3) := by decide +kernel
theorem d_m_has_22 : decode M_m_has.2.1 22 = .ok (.aload_n 0, 1) := by decide +kernel
theorem d_m_has_23 : decode M_m_has.2.1 23 = .ok (.iload_n 1, 1) := by decide +kernel
theorem d_m_has_24 : decode M_m_has.2.1 24 = .ok (.iload 5, 2) := by decide +kernel
theorem d_m_has_26 : decode M_m_has.2.1 26 = .ok (.invokevirtual 90, 3) := by decide +kernel
theorem d_m_has_29 : decode M_m_has.2.1 29 = .ok (.ifCond .eq 43, 3) := by decide +kernel
theorem d_m_has_32 : decode M_m_has.2.1 32 = .ok (.aload_n 0, 1) := by decide +kernel
theorem d_m_has_33 : decode M_m_has.2.1 33 = .ok (.getfield 47, 3) := by decide +kernel
theorem d_m_has_36 : decode M_m_has.2.1 36 = .ok (.iload_n 2, 1) := by decide +kernel
theorem d_m_has_37 : decode M_m_has.2.1 37 = .ok (.if_icmp .ne 23, 3) := by decide +kernel
theorem d_m_has_40 : decode M_m_has.2.1 40 = .ok (.aload_n 0, 1) := by decide +kernel
theorem d_m_has_41 : decode M_m_has.2.1 41 = .ok (.getfield 58, 3) := by decide +kernel
theorem d_m_has_44 : decode M_m_has.2.1 44 = .ok (.iload_n 3, 1) := by decide +kernel
theorem d_m_has_45 : decode M_m_has.2.1 45 = .ok (.if_icmp .eq 11, 3) := by decide +kernel
theorem d_m_has_48 : decode M_m_has.2.1 48 = .ok (.aload_n 0, 1) := by decide +kernel
theorem d_m_has_49 : decode M_m_has.2.1 49 = .ok (.getfield 61, 3) := by decide +kernel
theorem d_m_has_52 : decode M_m_has.2.1 52 = .ok (.iload_n 3, 1) := by decide +kernel
theorem d_m_has_53 : decode M_m_has.2.1 53 = .ok (.if_icmp .ne 7, 3) := by decide +kernel
theorem d_m_has_56 : decode M_m_has.2.1 56 = .ok (.iconst 1, 1) := by decide +kernel
theorem d_m_has_57 : decode M_m_has.2.1 57 = .ok (.goto 4, 3) := by decide +kernel
theorem d_m_has_60 : decode M_m_has.2.1 60 = .ok (.iconst 0, 1) := by decide +kernel
theorem d_m_has_61 : decode M_m_has.2.1 61 = .ok (.istore 4, 2) := by decide +kernel
theorem d_m_has_63 : decode M_m_has.2.1 63 = .ok (.aload_n 0, 1) := by decide +kernel
theorem d_m_has_64 : decode M_m_has.2.1 64 = .ok (.getfield 51, 3) := by decide +kernel
theorem d_m_has_67 : decode M_m_has.2.1 67 = .ok (.istore 5, 2) := by decide +kernel
theorem d_m_has_69 : decode M_m_has.2.1 69 = .ok (.goto (-63), 3) := by decide +kernel
theorem d_m_has_72 : decode M_m_has.2.1 72 = .ok (.iload 4, 2) := by decide +kernel
theorem d_m_has_74 : decode M_m_has.2.1 74 = .ok (.ireturn, 1) := by decide +kernel
theorem d_m_enlist_0 : decode M_m_enlist.2.1 0 = .ok (.aload_n 0, 1) := by decide +kernel
theorem d_m_enlist_1 : decode M_m_enlist.2.1 1 = .ok (.getfield 136, 3) := by decide +kernel
theorem d_m_enlist_4 : decode M_m_enlist.2.1 4 = .ok (.istore_n 2, 1) := by decide +kernel
theorem d_m_enlist_5 : decode M_m_enlist.2.1 5 = .ok (.iload_n 2, 1) := by decide +kernel
theorem d_m_enlist_6 : decode M_m_enlist.2.1 6 = .ok (.ifCond .le 21, 3) := by decide +kernel
theorem d_m_enlist_9 : decode M_m_enlist.2.1 9 = .ok (.aload_n 0, 1) := by decide +kernel
theorem d_m_enlist_10 : decode M_m_enlist.2.1 10 = .ok (.getfield 35, 3) := by decide +kernel
theorem d_m_enlist_13 : decode M_m_enlist.2.1 13 = .ok (.iload_n 2, 1) := by decide +kernel
theorem d_m_enlist_14 : decode M_m_enlist.2.1 14 = .ok (.iconst 1, 1) := by decide +kernel
theorem d_m_enlist_15 : decode M_m_enlist.2.1 15 = .ok (.isub, 1) := by decide +kernel
theorem d_m_enlist_16 : decode M_m_enlist.2.1 16 = .ok (.iaload, 1) := by decide +kernel
theorem d_m_enlist_17 : decode M_m_enlist.2.1 17 = .ok (.iload_n 1, 1) := by decide +kernel
theorem d_m_enlist_18 : decode M_m_enlist.2.1 18 = .ok (.if_icmp .le 9, 3) := by decide +kernel
theorem d_m_enlist_21 : decode M_m_enlist.2.1 21 = .ok (.iinc 2 (-1), 3) := by decide +kernel
theorem d_m_enlist_24 : decode M_m_enlist.2.1 24 = .ok (.goto (-19), 3) := by decide +kernel
theorem d_m_enlist_27 : decode M_m_enlist.2.1 27 = .ok (.iload_n 2, 1) := by decide +kernel
theorem d_m_enlist_28 : decode M_m_enlist.2.1 28 = .ok (.ifCond .le 16, 3) := by decide +kernel
theorem d_m_enlist_31 : decode M_m_enlist.2.1 31 = .ok (.aload_n 0, 1) := by decide +kernel
theorem d_m_enlist_32 : decode M_m_enlist.2.1 32 = .ok (.getfield 35, 3) := by decide +kernel
theorem d_m_enlist_35 : decode M_m_enlist.2.1 35 = .ok (.iload_n 2, 1) := by decide +kernel
theorem d_m_enlist_36 : decode M_m_enlist.2.1 36 = .ok (.iconst 1, 1) := by decide +kernel
theorem d_m_enlist_37 : decode M_m_enlist.2.1 37 = .ok (.isub, 1) := by decide +kernel
theorem d_m_enlist_38 : decode M_m_enlist.2.1 38 = .ok (.iaload, 1) := by decide +kernel
theorem d_m_enlist_39 : decode M_m_enlist.2.1 39 = .ok (.iload_n 1, 1) := by decide +kernel
theorem d_m_enlist_40 : decode M_m_enlist.2.1 40 = .ok (.if_icmp .ne 4, 3) := by decide +kernel
theorem d_m_enlist_43 : decode M_m_enlist.2.1 43 = .ok (.return_, 1) := by decide +kernel
theorem d_m_enlist_44 : decode M_m_enlist.2.1 44 = .ok (.aload_n 0, 1) := by decide +kernel
theorem d_m_enlist_45 : decode M_m_enlist.2.1 45 = .ok (.getfield 136, 3) := by decide +kernel
theorem d_m_enlist_48 : decode M_m_enlist.2.1 48 = .ok (.istore_n 3, 1) := by decide +kernel
theorem d_m_enlist_49 : decode M_m_enlist.2.1 49 = .ok (.iload_n 3, 1) := by decide +kernel
theorem d_m_enlist_50 : decode M_m_enlist.2.1 50 = .ok (.iload_n 2, 1) := by decide +kernel
theorem d_m_enlist_51 : decode M_m_enlist.2.1 51 = .ok (.if_icmp .le 23, 3) := by decide +kernel
theorem d_m_enlist_54 : decode M_m_enlist.2.1 54 = .ok (.aload_n 0, 1) := by decide +kernel
theorem d_m_enlist_55 : decode M_m_enlist.2.1 55 = .ok (.getfield 35, 3) := by decide +kernel
theorem d_m_enlist_58 : decode M_m_enlist.2.1 58 = .ok (.iload_n 3, 1) := by decide +kernel
theorem d_m_enlist_59 : decode M_m_enlist.2.1 59 = .ok (.aload_n 0, 1) := by decide +kernel
theorem d_m_enlist_60 : decode M_m_enlist.2.1 60 = .ok (.getfield 35, 3) := by decide +kernel
theorem d_m_enlist_63 : decode M_m_enlist.2.1 63 = .ok (.iload_n 3, 1) := by decide +kernel
theorem d_m_enlist_64 : decode M_m_enlist.2.1 64 = .ok (.iconst 1, 1) := by decide +kernel
theorem d_m_enlist_65 : decode M_m_enlist.2.1 65 = .ok (.isub, 1) := by decide +kernel
theorem d_m_enlist_66 : decode M_m_enlist.2.1 66 = .ok (.iaload, 1) := by decide +kernel
theorem d_m_enlist_67 : decode M_m_enlist.2.1 67 = .ok (.iastore, 1) := by decide +kernel
theorem d_m_enlist_68 : decode M_m_enlist.2.1 68 = .ok (.iinc 3 (-1), 3) := by decide +kernel
theorem d_m_enlist_71 : decode M_m_enlist.2.1 71 = .ok (.goto (-22), 3) := by decide +kernel
theorem d_m_enlist_74 : decode M_m_enlist.2.1 74 = .ok (.aload_n 0, 1) := by decide +kernel
theorem d_m_enlist_75 : decode M_m_enlist.2.1 75 = .ok (.getfield 35, 3) := by decide +kernel
theorem d_m_enlist_78 : decode M_m_enlist.2.1 78 = .ok (.iload_n 2, 1) := by decide +kernel
theorem d_m_enlist_79 : decode M_m_enlist.2.1 79 = .ok (.iload_n 1, 1) := by decide +kernel
theorem d_m_enlist_80 : decode M_m_enlist.2.1 80 = .ok (.iastore, 1) := by decide +kernel
theorem d_m_enlist_81 : decode M_m_enlist.2.1 81 = .ok (.aload_n 0, 1) := by decide +kernel
theorem d_m_enlist_82 : decode M_m_enlist.2.1 82 = .ok (.dup, 1) := by decide +kernel
theorem d_m_enlist_83 : decode M_m_enlist.2.1 83 = .ok (.getfield 136, 3) := by decide +kernel
theorem d_m_enlist_86 : decode M_m_enlist.2.1 86 = .ok (.iconst 1, 1) := by decide +kernel
theorem d_m_enlist_87 : decode M_m_enlist.2.1 87 = .ok (.iadd, 1) := by decide +kernel
theorem d_m_enlist_88 : decode M_m_enlist.2.1 88 = .ok (.putfield 136, 3) := by decide +kernel
theorem d_m_enlist_91 : decode M_m_enlist.2.1 91 = .ok (.return_, 1) := by decide +kernel
theorem d_m_message_0 : decode M_m_message.2.1 0 = .ok (.iconst 1, 1) := by decide +kernel
theorem d_m_message_1 : decode M_m_message.2.1 1 = .ok (.iload_n 1, 1) := by decide +kernel
theorem d_m_message_2 : decode M_m_message.2.1 2 = .ok (.isub, 1) := by decide +kernel
theorem d_m_message_3 : decode M_m_message.2.1 3 = .ok (.istore_n 3, 1) := by decide +kernel
theorem d_m_message_4 : decode M_m_message.2.1 4 = .ok (.iload_n 2, 1) := by decide +kernel
theorem d_m_message_5 : decode M_m_message.2.1 5 = .ok (.istore 4, 2) := by decide +kernel
theorem d_m_message_7 : decode M_m_message.2.1 7 = .ok (.iconst 0, 1) := by decide +kernel
theorem d_m_message_8 : decode M_m_message.2.1 8 = .ok (.istore 5, 2) := by decide +kernel
theorem d_m_message_10 : decode M_m_message.2.1 10 = .ok (.iconst 0, 1) := by decide +kernel
theorem d_m_message_11 : decode M_m_message.2.1 11 = .ok (.istore 6, 2) := by decide +kernel
theorem d_m_message_13 : decode M_m_message.2.1 13 = .ok (.iload 6, 2) := by decide +kernel
theorem d_m_message_15 : decode M_m_message.2.1 15 = .ok (.aload_n 0, 1) := by decide +kernel
theorem d_m_message_16 : decode M_m_message.2.1 16 = .ok (.getfield 32, 3) := by decide +kernel
theorem d_m_message_19 : decode M_m_message.2.1 19 = .ok (.iload_n 3, 1) := by decide +kernel
theorem d_m_message_20 : decode M_m_message.2.1 20 = .ok (.iaload, 1) := by decide +kernel
theorem d_m_message_21 : decode M_m_message.2.1 21 = .ok (.if_icmp .ge 74, 3) := by decide +kernel
theorem d_m_message_24 : decode M_m_message.2.1 24 = .ok (.aload_n 0, 1) := by decide +kernel
theorem d_m_message_25 : decode M_m_message.2.1 25 = .ok (.getfield 29, 3) := by decide +kernel
theorem d_m_message_28 : decode M_m_message.2.1 28 = .ok (.sipush 900, 3) := by decide +kernel
theorem d_m_message_31 : decode M_m_message.2.1 31 = .ok (.iload_n 3, 1) := by decide +kernel
theorem d_m_message_32 : decode M_m_message.2.1 32 = .ok (.imul, 1) := by decide +kernel
theorem d_m_message_33 : decode M_m_message.2.1 33 = .ok (.iload 6, 2) := by decide +kernel
theorem d_m_message_35 : decode M_m_message.2.1 35 = .ok (.iadd, 1) := by decide +kernel
theorem d_m_message_36 : decode M_m_message.2.1 36 = .ok (.iaload, 1) := by decide +kernel
theorem d_m_message_37 : decode M_m_message.2.1 37 = .ok (.istore 7, 2) := by decide +kernel
theorem d_m_message_39 : decode M_m_message.2.1 39 = .ok (.aload_n 0, 1) := by decide +kernel
theorem d_m_message_40 : decode M_m_message.2.1 40 = .ok (.iload_n 1, 1) := by decide +kernel
theorem d_m_message_41 : decode M_m_message.2.1 41 = .ok (.iload 7, 2) := by decide +kernel
theorem d_m_message_43 : decode M_m_message.2.1 43 = .ok (.invokevirtual 98, 3) := by decide +kernel
theorem d_m_message_46 : decode M_m_message.2.1 46 = .ok (.istore 8, 2) := by decide +kernel
theorem d_m_message_48 : decode M_m_message.2.1 48 = .ok (.iload 8, 2) := by decide +kernel
theorem d_m_message_50 : decode M_m_message.2.1 50 = .ok (.ifCond .lt 39, 3) := by decide +kernel
theorem d_m_message_53 : decode M_m_message.2.1 53 = .ok (.aload_n 0, 1) := by decide +kernel
theorem d_m_message_54 : decode M_m_message.2.1 54 = .ok (.getfield 13, 3) := by decide +kernel
theorem d_m_message_57 : decode M_m_message.2.1 57 = .ok (.iload 8, 2) := by decide +kernel
theorem d_m_message_59 : decode M_m_message.2.1 59 = .ok (.iaload, 1) := by decide +kernel
theorem d_m_message_60 : decode M_m_message.2.1 60 = .ok (.iload 4, 2) := by decide +kernel
theorem d_m_message_62 : decode M_m_message.2.1 62 = .ok (.if_icmp .gt 27, 3) := by decide +kernel
theorem d_m_message_65 : decode M_m_message.2.1 65 = .ok (.iload 4, 2) := by decide +kernel
theorem d_m_message_67 : decode M_m_message.2.1 67 = .ok (.aload_n 0, 1) := by decide +kernel
theorem d_m_message_68 : decode M_m_message.2.1 68 = .ok (.getfield 13, 3) := by decide +kernel
theorem d_m_message_71 : decode M_m_message.2.1 71 = .ok (.iload 8, 2) := by decide +kernel
theorem d_m_message_73 : decode M_m_message.2.1 73 = .ok (.iaload, 1) := by decide +kernel
theorem d_m_message_74 : decode M_m_message.2.1 74 = .ok (.isub, 1) := by decide +kernel
theorem d_m_message_75 : decode M_m_message.2.1 75 = .ok (.istore 4, 2) := by decide +kernel
theorem d_m_message_77 : decode M_m_message.2.1 77 = .ok (.iinc 5 1, 3) := by decide +kernel
theorem d_m_message_80 : decode M_m_message.2.1 80 = .ok (.aload_n 0, 1) := by decide +kernel
theorem d_m_message_81 : decode M_m_message.2.1 81 = .ok (.iload_n 3, 1) := by decide +kernel
theorem d_m_message_82 : decode M_m_message.2.1 82 = .ok (.iload 8, 2) := by decide +kernel
theorem d_m_message_84 : decode M_m_message.2.1 84 = .ok (.iload 7, 2) := by decide +kernel
theorem d_m_message_86 : decode M_m_message.2.1 86 = .ok (.invokevirtual 132, 3) := by decide +kernel
theorem d_m_message_89 : decode M_m_message.2.1 89 = .ok (.iinc 6 1, 3) := by decide +kernel
theorem d_m_message_92 : decode M_m_message.2.1 92 = .ok (.goto (-79), 3) := by decide +kernel
theorem d_m_message_95 : decode M_m_message.2.1 95 = .ok (.aload_n 0, 1) := by decide +kernel
theorem d_m_message_96 : decode M_m_message.2.1 96 = .ok (.iload_n 1, 1) := by decide +kernel
theorem d_m_message_97 : decode M_m_message.2.1 97 = .ok (.invokevirtual 149, 3) := by decide +kernel
theorem d_m_message_100 : decode M_m_message.2.1 100 = .ok (.iconst 0, 1) := by decide +kernel
theorem d_m_message_101 : decode M_m_message.2.1 101 = .ok (.istore 6, 2) := by decide +kernel
theorem d_m_message_103 : decode M_m_message.2.1 103 = .ok (.iload 6, 2) := by decide +kernel
theorem d_m_message_105 : decode M_m_message.2.1 105 = .ok (.aload_n 0, 1) := by decide +kernel
theorem d_m_message_106 : decode M_m_message.2.1 106 = .ok (.getfield 136, 3) := by decide +kernel
theorem d_m_message_109 : decode M_m_message.2.1 109 = .ok (.if_icmp .ge 21, 3) := by decide +kernel
theorem d_m_message_112 : decode M_m_message.2.1 112 = .ok (.aload_n 0, 1) := by decide +kernel
theorem d_m_message_113 : decode M_m_message.2.1 113 = .ok (.iload_n 3, 1) := by decide +kernel
theorem d_m_message_114 : decode M_m_message.2.1 114 = .ok (.aload_n 0, 1) := by decide +kernel
theorem d_m_message_115 : decode M_m_message.2.1 115 = .ok (.getfield 35, 3) := by decide +kernel
theorem d_m_message_118 : decode M_m_message.2.1 118 = .ok (.iload 6, 2) := by decide +kernel
theorem d_m_message_120 : decode M_m_message.2.1 120 = .ok (.iaload, 1) := by decide +kernel
theorem d_m_message_121 : decode M_m_message.2.1 121 = .ok (.invokevirtual 152, 3) := by decide +kernel
theorem d_m_message_124 : decode M_m_message.2.1 124 = .ok (.iinc 6 1, 3) := by decide +kernel
theorem d_m_message_127 : decode M_m_message.2.1 127 = .ok (.goto (-24), 3) := by decide +kernel
theorem d_m_message_130 : decode M_m_message.2.1 130 = .ok (.aload_n 0, 1) := by decide +kernel
theorem d_m_message_131 : decode M_m_message.2.1 131 = .ok (.iload_n 1, 1) := by decide +kernel
theorem d_m_message_132 : decode M_m_message.2.1 132 = .ok (.invokevirtual 155, 3) := by decide +kernel
theorem d_m_message_135 : decode M_m_message.2.1 135 = .ok (.aload_n 0, 1) := by decide +kernel
theorem d_m_message_136 : decode M_m_message.2.1 136 = .ok (.getfield 32, 3) := by decide +kernel
theorem d_m_message_139 : decode M_m_message.2.1 139 = .ok (.iload_n 1, 1) := by decide +kernel
theorem d_m_message_140 : decode M_m_message.2.1 140 = .ok (.aload_n 0, 1) := by decide +kernel
theorem d_m_message_141 : decode M_m_message.2.1 141 = .ok (.getfield 136, 3) := by decide +kernel
theorem d_m_message_144 : decode M_m_message.2.1 144 = .ok (.iastore, 1) := by decide +kernel
theorem d_m_message_145 : decode M_m_message.2.1 145 = .ok (.iconst 0, 1) := by decide +kernel
theorem d_m_message_146 : decode M_m_message.2.1 146 = .ok (.istore 6, 2) := by decide +kernel
theorem d_m_message_148 : decode M_m_message.2.1 148 = .ok (.iload 6, 2) := by decide +kernel
theorem d_m_message_150 : decode M_m_message.2.1 150 = .ok (.aload_n 0, 1) := by decide +kernel
theorem d_m_message_151 : decode M_m_message.2.1 151 = .ok (.getfield 136, 3) := by decide +kernel
theorem d_m_message_154 : decode M_m_message.2.1 154 = .ok (.if_icmp .ge 29, 3) := by decide +kernel
theorem d_m_message_157 : decode M_m_message.2.1 157 = .ok (.aload_n 0, 1) := by decide +kernel
theorem d_m_message_158 : decode M_m_message.2.1 158 = .ok (.getfield 29, 3) := by decide +kernel
theorem d_m_message_161 : decode M_m_message.2.1 161 = .ok (.sipush 900, 3) := by decide +kernel
theorem d_m_message_164 : decode M_m_message.2.1 164 = .ok (.iload_n 1, 1) := by decide +kernel
theorem d_m_message_165 : decode M_m_message.2.1 165 = .ok (.imul, 1) := by decide +kernel
theorem d_m_message_166 : decode M_m_message.2.1 166 = .ok (.iload 6, 2) := by decide +kernel
theorem d_m_message_168 : decode M_m_message.2.1 168 = .ok (.iadd, 1) := by decide +kernel
theorem d_m_message_169 : decode M_m_message.2.1 169 = .ok (.aload_n 0, 1) := by decide +kernel
theorem d_m_message_170 : decode M_m_message.2.1 170 = .ok (.getfield 35, 3) := by decide +kernel
theorem d_m_message_173 : decode M_m_message.2.1 173 = .ok (.iload 6, 2) := by decide +kernel
theorem d_m_message_175 : decode M_m_message.2.1 175 = .ok (.iaload, 1) := by decide +kernel
theorem d_m_message_176 : decode M_m_message.2.1 176 = .ok (.iastore, 1) := by decide +kernel
theorem d_m_message_177 : decode M_m_message.2.1 177 = .ok (.iinc 6 1, 3) := by decide +kernel
theorem d_m_message_180 : decode M_m_message.2.1 180 = .ok (.goto (-32), 3) := by decide +kernel
theorem d_m_message_183 : decode M_m_message.2.1 183 = .ok (.iload 5, 2) := by decide +kernel
theorem d_m_message_185 : decode M_m_message.2.1 185 = .ok (.ireturn, 1) := by decide +kernel
theorem d_m_tell_0 : decode M_m_tell.2.1 0 = .ok (.aload_n 0, 1) := by decide +kernel
theorem d_m_tell_1 : decode M_m_tell.2.1 1 = .ok (.iload_n 1, 1) := by decide +kernel
theorem d_m_tell_2 : decode M_m_tell.2.1 2 = .ok (.iload_n 2, 1) := by decide +kernel
theorem d_m_tell_3 : decode M_m_tell.2.1 3 = .ok (.invokevirtual 98, 3) := by decide +kernel
theorem d_m_tell_6 : decode M_m_tell.2.1 6 = .ok (.ifCond .lt 4, 3) := by decide +kernel
theorem d_m_tell_9 : decode M_m_tell.2.1 9 = .ok (.return_, 1) := by decide +kernel
theorem d_m_tell_10 : decode M_m_tell.2.1 10 = .ok (.iconst 0, 1) := by decide +kernel
theorem d_m_tell_11 : decode M_m_tell.2.1 11 = .ok (.istore_n 3, 1) := by decide +kernel
theorem d_m_tell_12 : decode M_m_tell.2.1 12 = .ok (.iload_n 3, 1) := by decide +kernel
theorem d_m_tell_13 : decode M_m_tell.2.1 13 = .ok (.aload_n 0, 1) := by decide +kernel
theorem d_m_tell_14 : decode M_m_tell.2.1 14 = .ok (.getfield 26, 3) := by decide +kernel
theorem d_m_tell_17 : decode M_m_tell.2.1 17 = .ok (.iload_n 1, 1) := by decide +kernel
theorem d_m_tell_18 : decode M_m_tell.2.1 18 = .ok (.iaload, 1) := by decide +kernel
theorem d_m_tell_19 : decode M_m_tell.2.1 19 = .ok (.if_icmp .ge 25, 3) := by decide +kernel
theorem d_m_tell_22 : decode M_m_tell.2.1 22 = .ok (.aload_n 0, 1) := by decide +kernel
theorem d_m_tell_23 : decode M_m_tell.2.1 23 = .ok (.getfield 23, 3) := by decide +kernel
theorem d_m_tell_26 : decode M_m_tell.2.1 26 = .ok (.bipush 32, 2) := by decide +kernel
theorem d_m_tell_28 : decode M_m_tell.2.1 28 = .ok (.iload_n 1, 1) := by decide +kernel
theorem d_m_tell_29 : decode M_m_tell.2.1 29 = .ok (.imul, 1) := by decide +kernel
theorem d_m_tell_30 : decode M_m_tell.2.1 30 = .ok (.iload_n 3, 1) := by decide +kernel
theorem d_m_tell_31 : decode M_m_tell.2.1 31 = .ok (.iadd, 1) := by decide +kernel
theorem d_m_tell_32 : decode M_m_tell.2.1 32 = .ok (.iaload, 1) := by decide +kernel
theorem d_m_tell_33 : decode M_m_tell.2.1 33 = .ok (.iload_n 2, 1) := by decide +kernel
theorem d_m_tell_34 : decode M_m_tell.2.1 34 = .ok (.if_icmp .ne 4, 3) := by decide +kernel
theorem d_m_tell_37 : decode M_m_tell.2.1 37 = .ok (.return_, 1) := by decide +kernel
theorem d_m_tell_38 : decode M_m_tell.2.1 38 = .ok (.iinc 3 1, 3) := by decide +kernel
theorem d_m_tell_41 : decode M_m_tell.2.1 41 = .ok (.goto (-29), 3) := by decide +kernel
theorem d_m_tell_44 : decode M_m_tell.2.1 44 = .ok (.aload_n 0, 1) := by decide +kernel
theorem d_m_tell_45 : decode M_m_tell.2.1 45 = .ok (.getfield 23, 3) := by decide +kernel
theorem d_m_tell_48 : decode M_m_tell.2.1 48 = .ok (.bipush 32, 2) := by decide +kernel
theorem d_m_tell_50 : decode M_m_tell.2.1 50 = .ok (.iload_n 1, 1) := by decide +kernel
theorem d_m_tell_51 : decode M_m_tell.2.1 51 = .ok (.imul, 1) := by decide +kernel
theorem d_m_tell_52 : decode M_m_tell.2.1 52 = .ok (.aload_n 0, 1) := by decide +kernel
theorem d_m_tell_53 : decode M_m_tell.2.1 53 = .ok (.getfield 26, 3) := by decide +kernel
theorem d_m_tell_56 : decode M_m_tell.2.1 56 = .ok (.iload_n 1, 1) := by decide +kernel
theorem d_m_tell_57 : decode M_m_tell.2.1 57 = .ok (.iaload, 1) := by decide +kernel
theorem d_m_tell_58 : decode M_m_tell.2.1 58 = .ok (.iadd, 1) := by decide +kernel
theorem d_m_tell_59 : decode M_m_tell.2.1 59 = .ok (.iload_n 2, 1) := by decide +kernel
theorem d_m_tell_60 : decode M_m_tell.2.1 60 = .ok (.iastore, 1) := by decide +kernel
theorem d_m_tell_61 : decode M_m_tell.2.1 61 = .ok (.aload_n 0, 1) := by decide +kernel
theorem d_m_tell_62 : decode M_m_tell.2.1 62 = .ok (.getfield 26, 3) := by decide +kernel
theorem d_m_tell_65 : decode M_m_tell.2.1 65 = .ok (.iload_n 1, 1) := by decide +kernel
theorem d_m_tell_66 : decode M_m_tell.2.1 66 = .ok (.dup2, 1) := by decide +kernel
theorem d_m_tell_67 : decode M_m_tell.2.1 67 = .ok (.iaload, 1) := by decide +kernel
theorem d_m_tell_68 : decode M_m_tell.2.1 68 = .ok (.iconst 1, 1) := by decide +kernel
theorem d_m_tell_69 : decode M_m_tell.2.1 69 = .ok (.iadd, 1) := by decide +kernel
theorem d_m_tell_70 : decode M_m_tell.2.1 70 = .ok (.iastore, 1) := by decide +kernel
theorem d_m_tell_71 : decode M_m_tell.2.1 71 = .ok (.return_, 1) := by decide +kernel
theorem d_m_listWanted_0 : decode M_m_listWanted.2.1 0 = .ok (.aload_n 0, 1) := by decide +kernel
theorem d_m_listWanted_1 : decode M_m_listWanted.2.1 1 = .ok (.iconst 0, 1) := by decide +kernel
theorem d_m_listWanted_2 : decode M_m_listWanted.2.1 2 = .ok (.putfield 136, 3) := by decide +kernel
theorem d_m_listWanted_5 : decode M_m_listWanted.2.1 5 = .ok (.iconst 0, 1) := by decide +kernel
theorem d_m_listWanted_6 : decode M_m_listWanted.2.1 6 = .ok (.istore_n 2, 1) := by decide +kernel
theorem d_m_listWanted_7 : decode M_m_listWanted.2.1 7 = .ok (.iload_n 2, 1) := by decide +kernel
theorem d_m_listWanted_8 : decode M_m_listWanted.2.1 8 = .ok (.aload_n 0, 1) := by decide +kernel
theorem d_m_listWanted_9 : decode M_m_listWanted.2.1 9 = .ok (.getfield 26, 3) := by decide +kernel
theorem d_m_listWanted_12 : decode M_m_listWanted.2.1 12 = .ok (.iload_n 1, 1) := by decide +kernel
theorem d_m_listWanted_13 : decode M_m_listWanted.2.1 13 = .ok (.iaload, 1) := by decide +kernel
theorem d_m_listWanted_14 : decode M_m_listWanted.2.1 14 = .ok (.if_icmp .ge 25, 3) := by decide +kernel
theorem d_m_listWanted_17 : decode M_m_listWanted.2.1 17 = .ok (.aload_n 0, 1) := by decide +kernel
theorem d_m_listWanted_18 : decode M_m_listWanted.2.1 18 = .ok (.iload_n 1, 1) := by decide +kernel
theorem d_m_listWanted_19 : decode M_m_listWanted.2.1 19 = .ok (.aload_n 0, 1) := by decide +kernel
theorem d_m_listWanted_20 : decode M_m_listWanted.2.1 20 = .ok (.getfield 23, 3) := by decide +kernel
theorem d_m_listWanted_23 : decode M_m_listWanted.2.1 23 = .ok (.bipush 32, 2) := by decide +kernel
theorem d_m_listWanted_25 : decode M_m_listWanted.2.1 25 = .ok (.iload_n 1, 1) := by decide +kernel
theorem d_m_listWanted_26 : decode M_m_listWanted.2.1 26 = .ok (.imul, 1) := by decide +kernel
theorem d_m_listWanted_27 : decode M_m_listWanted.2.1 27 = .ok (.iload_n 2, 1) := by decide +kernel
theorem d_m_listWanted_28 : decode M_m_listWanted.2.1 28 = .ok (.iadd, 1) := by decide +kernel
theorem d_m_listWanted_29 : decode M_m_listWanted.2.1 29 = .ok (.iaload, 1) := by decide +kernel
theorem d_m_listWanted_30 : decode M_m_listWanted.2.1 30 = .ok (.invokevirtual 146, 3) := by decide +kernel
theorem d_m_listWanted_33 : decode M_m_listWanted.2.1 33 = .ok (.iinc 2 1, 3) := by decide +kernel
theorem d_m_listWanted_36 : decode M_m_listWanted.2.1 36 = .ok (.goto (-29), 3) := by decide +kernel
theorem d_m_listWanted_39 : decode M_m_listWanted.2.1 39 = .ok (.bipush 32, 2) := by decide +kernel
theorem d_m_listWanted_41 : decode M_m_listWanted.2.1 41 = .ok (.iload_n 1, 1) := by decide +kernel
theorem d_m_listWanted_42 : decode M_m_listWanted.2.1 42 = .ok (.imul, 1) := by decide +kernel
theorem d_m_listWanted_43 : decode M_m_listWanted.2.1 43 = .ok (.istore_n 2, 1) := by decide +kernel
theorem d_m_listWanted_44 : decode M_m_listWanted.2.1 44 = .ok (.iload_n 2, 1) := by decide +kernel
theorem d_m_listWanted_45 : decode M_m_listWanted.2.1 45 = .ok (.bipush 32, 2) := by decide +kernel
theorem d_m_listWanted_47 : decode M_m_listWanted.2.1 47 = .ok (.iload_n 1, 1) := by decide +kernel
theorem d_m_listWanted_48 : decode M_m_listWanted.2.1 48 = .ok (.imul, 1) := by decide +kernel
theorem d_m_listWanted_49 : decode M_m_listWanted.2.1 49 = .ok (.aload_n 0, 1) := by decide +kernel
theorem d_m_listWanted_50 : decode M_m_listWanted.2.1 50 = .ok (.getfield 20, 3) := by decide +kernel
theorem d_m_listWanted_53 : decode M_m_listWanted.2.1 53 = .ok (.iload_n 1, 1) := by decide +kernel
theorem d_m_listWanted_54 : decode M_m_listWanted.2.1 54 = .ok (.iaload, 1) := by decide +kernel
theorem d_m_listWanted_55 : decode M_m_listWanted.2.1 55 = .ok (.iadd, 1) := by decide +kernel
theorem d_m_listWanted_56 : decode M_m_listWanted.2.1 56 = .ok (.if_icmp .ge 120, 3) := by decide +kernel
theorem d_m_listWanted_59 : decode M_m_listWanted.2.1 59 = .ok (.aload_n 0, 1) := by decide +kernel
theorem d_m_listWanted_60 : decode M_m_listWanted.2.1 60 = .ok (.iload_n 2, 1) := by decide +kernel
theorem d_m_listWanted_61 : decode M_m_listWanted.2.1 61 = .ok (.invokevirtual 101, 3) := by decide +kernel
theorem d_m_listWanted_64 : decode M_m_listWanted.2.1 64 = .ok (.istore_n 3, 1) := by decide +kernel
theorem d_m_listWanted_65 : decode M_m_listWanted.2.1 65 = .ok (.iconst 0, 1) := by decide +kernel
theorem d_m_listWanted_66 : decode M_m_listWanted.2.1 66 = .ok (.istore 4, 2) := by decide +kernel
theorem d_m_listWanted_68 : decode M_m_listWanted.2.1 68 = .ok (.iload_n 3, 1) := by decide +kernel
theorem d_m_listWanted_69 : decode M_m_listWanted.2.1 69 = .ok (.iconst 1, 1) := by decide +kernel
theorem d_m_listWanted_70 : decode M_m_listWanted.2.1 70 = .ok (.if_icmp .eq 8, 3) := by decide +kernel
theorem d_m_listWanted_73 : decode M_m_listWanted.2.1 73 = .ok (.iload_n 3, 1) := by decide +kernel
theorem d_m_listWanted_74 : decode M_m_listWanted.2.1 74 = .ok (.iconst 3, 1) := by decide +kernel
theorem d_m_listWanted_75 : decode M_m_listWanted.2.1 75 = .ok (.if_icmp .ne 95, 3) := by decide +kernel
theorem d_m_listWanted_78 : decode M_m_listWanted.2.1 78 = .ok (.iload 4, 2) := by decide +kernel
theorem d_m_listWanted_80 : decode M_m_listWanted.2.1 80 = .ok (.aload_n 0, 1) := by decide +kernel
theorem d_m_listWanted_81 : decode M_m_listWanted.2.1 81 = .ok (.getfield 13, 3) := by decide +kernel
theorem d_m_listWanted_84 : decode M_m_listWanted.2.1 84 = .ok (.iload_n 2, 1) := by decide +kernel
theorem d_m_listWanted_85 : decode M_m_listWanted.2.1 85 = .ok (.iaload, 1) := by decide +kernel
theorem d_m_listWanted_86 : decode M_m_listWanted.2.1 86 = .ok (.if_icmp .ge 84, 3) := by decide +kernel
theorem d_m_listWanted_89 : decode M_m_listWanted.2.1 89 = .ok (.aload_n 0, 1) := by decide +kernel
theorem d_m_listWanted_90 : decode M_m_listWanted.2.1 90 = .ok (.iload_n 2, 1) := by decide +kernel
theorem d_m_listWanted_91 : decode M_m_listWanted.2.1 91 = .ok (.iload 4, 2) := by decide +kernel
theorem d_m_listWanted_93 : decode M_m_listWanted.2.1 93 = .ok (.invokevirtual 90, 3) := by decide +kernel
theorem d_m_listWanted_96 : decode M_m_listWanted.2.1 96 = .ok (.ifCond .eq 74, 3) := by decide +kernel
theorem d_m_listWanted_99 : decode M_m_listWanted.2.1 99 = .ok (.aload_n 0, 1) := by decide +kernel
theorem d_m_listWanted_100 : decode M_m_listWanted.2.1 100 = .ok (.getfield 51, 3) := by decide +kernel
theorem d_m_listWanted_103 : decode M_m_listWanted.2.1 103 = .ok (.istore 4, 2) := by decide +kernel
theorem d_m_listWanted_105 : decode M_m_listWanted.2.1 105 = .ok (.aload_n 0, 1) := by decide +kernel
theorem d_m_listWanted_106 : decode M_m_listWanted.2.1 106 = .ok (.getfield 47, 3) := by decide +kernel
theorem d_m_listWanted_109 : decode M_m_listWanted.2.1 109 = .ok (.bipush 70, 2) := by decide +kernel
theorem d_m_listWanted_111 : decode M_m_listWanted.2.1 111 = .ok (.if_icmp .eq 21, 3) := by decide +kernel
theorem d_m_listWanted_114 : decode M_m_listWanted.2.1 114 = .ok (.aload_n 0, 1) := by decide +kernel
theorem d_m_listWanted_115 : decode M_m_listWanted.2.1 115 = .ok (.getfield 47, 3) := by decide +kernel
theorem d_m_listWanted_118 : decode M_m_listWanted.2.1 118 = .ok (.bipush 77, 2) := by decide +kernel
theorem d_m_listWanted_120 : decode M_m_listWanted.2.1 120 = .ok (.if_icmp .eq 12, 3) := by decide +kernel
theorem d_m_listWanted_123 : decode M_m_listWanted.2.1 123 = .ok (.aload_n 0, 1) := by decide +kernel
theorem d_m_listWanted_124 : decode M_m_listWanted.2.1 124 = .ok (.getfield 47, 3) := by decide +kernel
theorem d_m_listWanted_127 : decode M_m_listWanted.2.1 127 = .ok (.bipush 80, 2) := by decide +kernel
theorem d_m_listWanted_129 : decode M_m_listWanted.2.1 129 = .ok (.if_icmp .ne (-61), 3) := by decide +kernel
theorem d_m_listWanted_132 : decode M_m_listWanted.2.1 132 = .ok (.aload_n 0, 1) := by decide +kernel
theorem d_m_listWanted_133 : decode M_m_listWanted.2.1 133 = .ok (.getfield 47, 3) := by decide +kernel
theorem d_m_listWanted_136 : decode M_m_listWanted.2.1 136 = .ok (.bipush 80, 2) := by decide +kernel
theorem d_m_listWanted_138 : decode M_m_listWanted.2.1 138 = .ok (.if_icmp .ne 10, 3) := by decide +kernel
theorem d_m_listWanted_141 : decode M_m_listWanted.2.1 141 = .ok (.aload_n 0, 1) := by decide +kernel
theorem d_m_listWanted_142 : decode M_m_listWanted.2.1 142 = .ok (.getfield 61, 3) := by decide +kernel
theorem d_m_listWanted_145 : decode M_m_listWanted.2.1 145 = .ok (.goto 4, 3) := by decide +kernel
theorem d_m_listWanted_148 : decode M_m_listWanted.2.1 148 = .ok (.iconst (-1), 1) := by decide +kernel
theorem d_m_listWanted_149 : decode M_m_listWanted.2.1 149 = .ok (.istore 5, 2) := by decide +kernel
theorem d_m_listWanted_151 : decode M_m_listWanted.2.1 151 = .ok (.aload_n 0, 1) := by decide +kernel
theorem d_m_listWanted_152 : decode M_m_listWanted.2.1 152 = .ok (.iload_n 1, 1) := by decide +kernel
theorem d_m_listWanted_153 : decode M_m_listWanted.2.1 153 = .ok (.aload_n 0, 1) := by decide +kernel
theorem d_m_listWanted_154 : decode M_m_listWanted.2.1 154 = .ok (.getfield 58, 3) := by decide +kernel
theorem d_m_listWanted_157 : decode M_m_listWanted.2.1 157 = .ok (.invokevirtual 146, 3) := by decide +kernel
theorem d_m_listWanted_160 : decode M_m_listWanted.2.1 160 = .ok (.aload_n 0, 1) := by decide +kernel
theorem d_m_listWanted_161 : decode M_m_listWanted.2.1 161 = .ok (.iload_n 1, 1) := by decide +kernel
theorem d_m_listWanted_162 : decode M_m_listWanted.2.1 162 = .ok (.iload 5, 2) := by decide +kernel
theorem d_m_listWanted_164 : decode M_m_listWanted.2.1 164 = .ok (.invokevirtual 146, 3) := by decide +kernel
theorem d_m_listWanted_167 : decode M_m_listWanted.2.1 167 = .ok (.goto (-99), 3) := by decide +kernel
theorem d_m_listWanted_170 : decode M_m_listWanted.2.1 170 = .ok (.iinc 2 1, 3) := by decide +kernel
theorem d_m_listWanted_173 : decode M_m_listWanted.2.1 173 = .ok (.goto (-129), 3) := by decide +kernel
theorem d_m_listWanted_176 : decode M_m_listWanted.2.1 176 = .ok (.return_, 1) := by decide +kernel
theorem d_m_lack_0 : decode M_m_lack.2.1 0 = .ok (.iload_n 2, 1) := by decide +kernel
theorem d_m_lack_1 : decode M_m_lack.2.1 1 = .ok (.ifCond .lt 17, 3) := by decide +kernel
theorem d_m_lack_4 : decode M_m_lack.2.1 4 = .ok (.aload_n 0, 1) := by decide +kernel
theorem d_m_lack_5 : decode M_m_lack.2.1 5 = .ok (.iload_n 1, 1) := by decide +kernel
theorem d_m_lack_6 : decode M_m_lack.2.1 6 = .ok (.iload_n 2, 1) := by decide +kernel
theorem d_m_lack_7 : decode M_m_lack.2.1 7 = .ok (.invokevirtual 98, 3) := by decide +kernel
theorem d_m_lack_10 : decode M_m_lack.2.1 10 = .ok (.ifCond .ge 8, 3) := by decide +kernel
theorem d_m_lack_13 : decode M_m_lack.2.1 13 = .ok (.aload_n 0, 1) := by decide +kernel
theorem d_m_lack_14 : decode M_m_lack.2.1 14 = .ok (.iload_n 2, 1) := by decide +kernel
theorem d_m_lack_15 : decode M_m_lack.2.1 15 = .ok (.invokevirtual 142, 3) := by decide +kernel
theorem d_m_lack_18 : decode M_m_lack.2.1 18 = .ok (.return_, 1) := by decide +kernel
theorem d_m_held_0 : decode M_m_held.2.1 0 = .ok (.iload_n 1, 1) := by decide +kernel
theorem d_m_held_1 : decode M_m_held.2.1 1 = .ok (.invokestatic 129, 3) := by decide +kernel
theorem d_m_held_4 : decode M_m_held.2.1 4 = .ok (.ifCond .eq 12, 3) := by decide +kernel
theorem d_m_held_7 : decode M_m_held.2.1 7 = .ok (.aload_n 0, 1) := by decide +kernel
theorem d_m_held_8 : decode M_m_held.2.1 8 = .ok (.getfield 20, 3) := by decide +kernel
theorem d_m_held_11 : decode M_m_held.2.1 11 = .ok (.iload_n 1, 1) := by decide +kernel
theorem d_m_held_12 : decode M_m_held.2.1 12 = .ok (.iaload, 1) := by decide +kernel
theorem d_m_held_13 : decode M_m_held.2.1 13 = .ok (.goto 4, 3) := by decide +kernel
theorem d_m_held_16 : decode M_m_held.2.1 16 = .ok (.iconst (-1), 1) := by decide +kernel
theorem d_m_held_17 : decode M_m_held.2.1 17 = .ok (.ireturn, 1) := by decide +kernel
theorem d_m_name_0 : decode M_m_name.2.1 0 = .ok (.iload_n 1, 1) := by decide +kernel
theorem d_m_name_1 : decode M_m_name.2.1 1 = .ok (.invokestatic 129, 3) := by decide +kernel
theorem d_m_name_4 : decode M_m_name.2.1 4 = .ok (.ifCond .eq 17, 3) := by decide +kernel
theorem d_m_name_7 : decode M_m_name.2.1 7 = .ok (.iload_n 2, 1) := by decide +kernel
theorem d_m_name_8 : decode M_m_name.2.1 8 = .ok (.ifCond .lt 13, 3) := by decide +kernel
theorem d_m_name_11 : decode M_m_name.2.1 11 = .ok (.iload_n 2, 1) := by decide +kernel
theorem d_m_name_12 : decode M_m_name.2.1 12 = .ok (.aload_n 0, 1) := by decide +kernel
theorem d_m_name_13 : decode M_m_name.2.1 13 = .ok (.getfield 20, 3) := by decide +kernel
theorem d_m_name_16 : decode M_m_name.2.1 16 = .ok (.iload_n 1, 1) := by decide +kernel
theorem d_m_name_17 : decode M_m_name.2.1 17 = .ok (.iaload, 1) := by decide +kernel
theorem d_m_name_18 : decode M_m_name.2.1 18 = .ok (.if_icmp .lt 5, 3) := by decide +kernel
theorem d_m_name_21 : decode M_m_name.2.1 21 = .ok (.iconst (-1), 1) := by decide +kernel
theorem d_m_name_22 : decode M_m_name.2.1 22 = .ok (.ireturn, 1) := by decide +kernel
theorem d_m_name_23 : decode M_m_name.2.1 23 = .ok (.aload_n 0, 1) := by decide +kernel
theorem d_m_name_24 : decode M_m_name.2.1 24 = .ok (.iconst 0, 1) := by decide +kernel
theorem d_m_name_25 : decode M_m_name.2.1 25 = .ok (.putfield 136, 3) := by decide +kernel
theorem d_m_name_28 : decode M_m_name.2.1 28 = .ok (.bipush 32, 2) := by decide +kernel
theorem d_m_name_30 : decode M_m_name.2.1 30 = .ok (.iload_n 1, 1) := by decide +kernel
theorem d_m_name_31 : decode M_m_name.2.1 31 = .ok (.imul, 1) := by decide +kernel
theorem d_m_name_32 : decode M_m_name.2.1 32 = .ok (.istore_n 3, 1) := by decide +kernel
theorem d_m_name_33 : decode M_m_name.2.1 33 = .ok (.iload_n 3, 1) := by decide +kernel
theorem d_m_name_34 : decode M_m_name.2.1 34 = .ok (.bipush 32, 2) := by decide +kernel
theorem d_m_name_36 : decode M_m_name.2.1 36 = .ok (.iload_n 1, 1) := by decide +kernel
theorem d_m_name_37 : decode M_m_name.2.1 37 = .ok (.imul, 1) := by decide +kernel
theorem d_m_name_38 : decode M_m_name.2.1 38 = .ok (.aload_n 0, 1) := by decide +kernel
theorem d_m_name_39 : decode M_m_name.2.1 39 = .ok (.getfield 20, 3) := by decide +kernel
theorem d_m_name_42 : decode M_m_name.2.1 42 = .ok (.iload_n 1, 1) := by decide +kernel
theorem d_m_name_43 : decode M_m_name.2.1 43 = .ok (.iaload, 1) := by decide +kernel
theorem d_m_name_44 : decode M_m_name.2.1 44 = .ok (.iadd, 1) := by decide +kernel
theorem d_m_name_45 : decode M_m_name.2.1 45 = .ok (.if_icmp .ge 19, 3) := by decide +kernel
theorem d_m_name_48 : decode M_m_name.2.1 48 = .ok (.aload_n 0, 1) := by decide +kernel
theorem d_m_name_49 : decode M_m_name.2.1 49 = .ok (.aload_n 0, 1) := by decide +kernel
theorem d_m_name_50 : decode M_m_name.2.1 50 = .ok (.getfield 17, 3) := by decide +kernel
theorem d_m_name_53 : decode M_m_name.2.1 53 = .ok (.iload_n 3, 1) := by decide +kernel
theorem d_m_name_54 : decode M_m_name.2.1 54 = .ok (.iaload, 1) := by decide +kernel
theorem d_m_name_55 : decode M_m_name.2.1 55 = .ok (.invokevirtual 142, 3) := by decide +kernel
theorem d_m_name_58 : decode M_m_name.2.1 58 = .ok (.iinc 3 1, 3) := by decide +kernel
theorem d_m_name_61 : decode M_m_name.2.1 61 = .ok (.goto (-28), 3) := by decide +kernel
theorem d_m_name_64 : decode M_m_name.2.1 64 = .ok (.aload_n 0, 1) := by decide +kernel
theorem d_m_name_65 : decode M_m_name.2.1 65 = .ok (.getfield 35, 3) := by decide +kernel
theorem d_m_name_68 : decode M_m_name.2.1 68 = .ok (.iload_n 2, 1) := by decide +kernel
theorem d_m_name_69 : decode M_m_name.2.1 69 = .ok (.iaload, 1) := by decide +kernel
theorem d_m_name_70 : decode M_m_name.2.1 70 = .ok (.ireturn, 1) := by decide +kernel
theorem d_m_octet_0 : decode M_m_octet.2.1 0 = .ok (.iload_n 1, 1) := by decide +kernel
theorem d_m_octet_1 : decode M_m_octet.2.1 1 = .ok (.invokestatic 129, 3) := by decide +kernel
theorem d_m_octet_4 : decode M_m_octet.2.1 4 = .ok (.ifCond .eq 12, 3) := by decide +kernel
theorem d_m_octet_7 : decode M_m_octet.2.1 7 = .ok (.aload_n 0, 1) := by decide +kernel
theorem d_m_octet_8 : decode M_m_octet.2.1 8 = .ok (.iload_n 1, 1) := by decide +kernel
theorem d_m_octet_9 : decode M_m_octet.2.1 9 = .ok (.iload_n 2, 1) := by decide +kernel
theorem d_m_octet_10 : decode M_m_octet.2.1 10 = .ok (.invokevirtual 98, 3) := by decide +kernel
theorem d_m_octet_13 : decode M_m_octet.2.1 13 = .ok (.goto 4, 3) := by decide +kernel
theorem d_m_octet_16 : decode M_m_octet.2.1 16 = .ok (.iconst (-1), 1) := by decide +kernel
theorem d_m_octet_17 : decode M_m_octet.2.1 17 = .ok (.istore 4, 2) := by decide +kernel
theorem d_m_octet_19 : decode M_m_octet.2.1 19 = .ok (.iload 4, 2) := by decide +kernel
theorem d_m_octet_21 : decode M_m_octet.2.1 21 = .ok (.ifCond .lt 18, 3) := by decide +kernel
theorem d_m_octet_24 : decode M_m_octet.2.1 24 = .ok (.iload_n 3, 1) := by decide +kernel
theorem d_m_octet_25 : decode M_m_octet.2.1 25 = .ok (.ifCond .lt 14, 3) := by decide +kernel
theorem d_m_octet_28 : decode M_m_octet.2.1 28 = .ok (.iload_n 3, 1) := by decide +kernel
theorem d_m_octet_29 : decode M_m_octet.2.1 29 = .ok (.aload_n 0, 1) := by decide +kernel
theorem d_m_octet_30 : decode M_m_octet.2.1 30 = .ok (.getfield 13, 3) := by decide +kernel
theorem d_m_octet_33 : decode M_m_octet.2.1 33 = .ok (.iload 4, 2) := by decide +kernel
theorem d_m_octet_35 : decode M_m_octet.2.1 35 = .ok (.iaload, 1) := by decide +kernel
theorem d_m_octet_36 : decode M_m_octet.2.1 36 = .ok (.if_icmp .lt 7, 3) := by decide +kernel
theorem d_m_octet_39 : decode M_m_octet.2.1 39 = .ok (.iconst (-1), 1) := by decide +kernel
theorem d_m_octet_40 : decode M_m_octet.2.1 40 = .ok (.goto 10, 3) := by decide +kernel
theorem d_m_octet_43 : decode M_m_octet.2.1 43 = .ok (.aload_n 0, 1) := by decide +kernel
theorem d_m_octet_44 : decode M_m_octet.2.1 44 = .ok (.iload 4, 2) := by decide +kernel
theorem d_m_octet_46 : decode M_m_octet.2.1 46 = .ok (.iload_n 3, 1) := by decide +kernel
theorem d_m_octet_47 : decode M_m_octet.2.1 47 = .ok (.invokevirtual 40, 3) := by decide +kernel
theorem d_m_octet_50 : decode M_m_octet.2.1 50 = .ok (.ireturn, 1) := by decide +kernel
theorem d_m_kind_0 : decode M_m_kind.2.1 0 = .ok (.iload_n 1, 1) := by decide +kernel
theorem d_m_kind_1 : decode M_m_kind.2.1 1 = .ok (.invokestatic 129, 3) := by decide +kernel
theorem d_m_kind_4 : decode M_m_kind.2.1 4 = .ok (.ifCond .eq 12, 3) := by decide +kernel
theorem d_m_kind_7 : decode M_m_kind.2.1 7 = .ok (.aload_n 0, 1) := by decide +kernel
theorem d_m_kind_8 : decode M_m_kind.2.1 8 = .ok (.iload_n 1, 1) := by decide +kernel
theorem d_m_kind_9 : decode M_m_kind.2.1 9 = .ok (.iload_n 2, 1) := by decide +kernel
theorem d_m_kind_10 : decode M_m_kind.2.1 10 = .ok (.invokevirtual 98, 3) := by decide +kernel
theorem d_m_kind_13 : decode M_m_kind.2.1 13 = .ok (.goto 4, 3) := by decide +kernel
theorem d_m_kind_16 : decode M_m_kind.2.1 16 = .ok (.iconst (-1), 1) := by decide +kernel
theorem d_m_kind_17 : decode M_m_kind.2.1 17 = .ok (.istore_n 3, 1) := by decide +kernel
theorem d_m_kind_18 : decode M_m_kind.2.1 18 = .ok (.iload_n 3, 1) := by decide +kernel
theorem d_m_kind_19 : decode M_m_kind.2.1 19 = .ok (.ifCond .ge 7, 3) := by decide +kernel
theorem d_m_kind_22 : decode M_m_kind.2.1 22 = .ok (.iconst (-1), 1) := by decide +kernel
theorem d_m_kind_23 : decode M_m_kind.2.1 23 = .ok (.goto 8, 3) := by decide +kernel
theorem d_m_kind_26 : decode M_m_kind.2.1 26 = .ok (.aload_n 0, 1) := by decide +kernel
theorem d_m_kind_27 : decode M_m_kind.2.1 27 = .ok (.iload_n 3, 1) := by decide +kernel
theorem d_m_kind_28 : decode M_m_kind.2.1 28 = .ok (.invokevirtual 101, 3) := by decide +kernel
theorem d_m_kind_31 : decode M_m_kind.2.1 31 = .ok (.ireturn, 1) := by decide +kernel
theorem d_m_wanted_0 : decode M_m_wanted.2.1 0 = .ok (.iload_n 1, 1) := by decide +kernel
theorem d_m_wanted_1 : decode M_m_wanted.2.1 1 = .ok (.invokestatic 129, 3) := by decide +kernel
theorem d_m_wanted_4 : decode M_m_wanted.2.1 4 = .ok (.ifCond .ne 5, 3) := by decide +kernel
theorem d_m_wanted_7 : decode M_m_wanted.2.1 7 = .ok (.iconst (-1), 1) := by decide +kernel
theorem d_m_wanted_8 : decode M_m_wanted.2.1 8 = .ok (.ireturn, 1) := by decide +kernel
theorem d_m_wanted_9 : decode M_m_wanted.2.1 9 = .ok (.aload_n 0, 1) := by decide +kernel
theorem d_m_wanted_10 : decode M_m_wanted.2.1 10 = .ok (.iload_n 1, 1) := by decide +kernel
theorem d_m_wanted_11 : decode M_m_wanted.2.1 11 = .ok (.invokevirtual 155, 3) := by decide +kernel
theorem d_m_wanted_14 : decode M_m_wanted.2.1 14 = .ok (.aload_n 0, 1) := by decide +kernel
theorem d_m_wanted_15 : decode M_m_wanted.2.1 15 = .ok (.getfield 136, 3) := by decide +kernel
theorem d_m_wanted_18 : decode M_m_wanted.2.1 18 = .ok (.ireturn, 1) := by decide +kernel
theorem d_m_wants_0 : decode M_m_wants.2.1 0 = .ok (.iload_n 1, 1) := by decide +kernel
theorem d_m_wants_1 : decode M_m_wants.2.1 1 = .ok (.invokestatic 129, 3) := by decide +kernel
theorem d_m_wants_4 : decode M_m_wants.2.1 4 = .ok (.ifCond .ne 5, 3) := by decide +kernel
theorem d_m_wants_7 : decode M_m_wants.2.1 7 = .ok (.iconst 0, 1) := by decide +kernel
theorem d_m_wants_8 : decode M_m_wants.2.1 8 = .ok (.ireturn, 1) := by decide +kernel
theorem d_m_wants_9 : decode M_m_wants.2.1 9 = .ok (.aload_n 0, 1) := by decide +kernel
theorem d_m_wants_10 : decode M_m_wants.2.1 10 = .ok (.iload_n 1, 1) := by decide +kernel
theorem d_m_wants_11 : decode M_m_wants.2.1 11 = .ok (.invokevirtual 155, 3) := by decide +kernel
theorem d_m_wants_14 : decode M_m_wants.2.1 14 = .ok (.iconst 0, 1) := by decide +kernel
theorem d_m_wants_15 : decode M_m_wants.2.1 15 = .ok (.istore_n 3, 1) := by decide +kernel
theorem d_m_wants_16 : decode M_m_wants.2.1 16 = .ok (.iconst 0, 1) := by decide +kernel
theorem d_m_wants_17 : decode M_m_wants.2.1 17 = .ok (.istore 4, 2) := by decide +kernel
theorem d_m_wants_19 : decode M_m_wants.2.1 19 = .ok (.iload 4, 2) := by decide +kernel
theorem d_m_wants_21 : decode M_m_wants.2.1 21 = .ok (.aload_n 0, 1) := by decide +kernel
theorem d_m_wants_22 : decode M_m_wants.2.1 22 = .ok (.getfield 136, 3) := by decide +kernel
theorem d_m_wants_25 : decode M_m_wants.2.1 25 = .ok (.if_icmp .ge 30, 3) := by decide +kernel
theorem d_m_wants_28 : decode M_m_wants.2.1 28 = .ok (.iload_n 3, 1) := by decide +kernel
theorem d_m_wants_29 : decode M_m_wants.2.1 29 = .ok (.ifCond .ne 14, 3) := by decide +kernel
theorem d_m_wants_32 : decode M_m_wants.2.1 32 = .ok (.aload_n 0, 1) := by decide +kernel
theorem d_m_wants_33 : decode M_m_wants.2.1 33 = .ok (.getfield 35, 3) := by decide +kernel
theorem d_m_wants_36 : decode M_m_wants.2.1 36 = .ok (.iload 4, 2) := by decide +kernel
theorem d_m_wants_38 : decode M_m_wants.2.1 38 = .ok (.iaload, 1) := by decide +kernel
theorem d_m_wants_39 : decode M_m_wants.2.1 39 = .ok (.iload_n 2, 1) := by decide +kernel
theorem d_m_wants_40 : decode M_m_wants.2.1 40 = .ok (.if_icmp .ne 7, 3) := by decide +kernel
theorem d_m_wants_43 : decode M_m_wants.2.1 43 = .ok (.iconst 1, 1) := by decide +kernel
theorem d_m_wants_44 : decode M_m_wants.2.1 44 = .ok (.goto 4, 3) := by decide +kernel
theorem d_m_wants_47 : decode M_m_wants.2.1 47 = .ok (.iconst 0, 1) := by decide +kernel
theorem d_m_wants_48 : decode M_m_wants.2.1 48 = .ok (.istore_n 3, 1) := by decide +kernel
theorem d_m_wants_49 : decode M_m_wants.2.1 49 = .ok (.iinc 4 1, 3) := by decide +kernel
theorem d_m_wants_52 : decode M_m_wants.2.1 52 = .ok (.goto (-33), 3) := by decide +kernel
theorem d_m_wants_55 : decode M_m_wants.2.1 55 = .ok (.iload_n 3, 1) := by decide +kernel
theorem d_m_wants_56 : decode M_m_wants.2.1 56 = .ok (.ireturn, 1) := by decide +kernel
theorem d_m_checkIns_0 : decode M_m_checkIns.2.1 0 = .ok (.iload_n 1, 1) := by decide +kernel
theorem d_m_checkIns_1 : decode M_m_checkIns.2.1 1 = .ok (.invokestatic 129, 3) := by decide +kernel
theorem d_m_checkIns_4 : decode M_m_checkIns.2.1 4 = .ok (.ifCond .ne 5, 3) := by decide +kernel
theorem d_m_checkIns_7 : decode M_m_checkIns.2.1 7 = .ok (.iconst (-1), 1) := by decide +kernel
theorem d_m_checkIns_8 : decode M_m_checkIns.2.1 8 = .ok (.ireturn, 1) := by decide +kernel
theorem d_m_checkIns_9 : decode M_m_checkIns.2.1 9 = .ok (.iconst 0, 1) := by decide +kernel
theorem d_m_checkIns_10 : decode M_m_checkIns.2.1 10 = .ok (.istore_n 2, 1) := by decide +kernel
theorem d_m_checkIns_11 : decode M_m_checkIns.2.1 11 = .ok (.bipush 32, 2) := by decide +kernel
theorem d_m_checkIns_13 : decode M_m_checkIns.2.1 13 = .ok (.iload_n 1, 1) := by decide +kernel
theorem d_m_checkIns_14 : decode M_m_checkIns.2.1 14 = .ok (.imul, 1) := by decide +kernel
theorem d_m_checkIns_15 : decode M_m_checkIns.2.1 15 = .ok (.istore_n 3, 1) := by decide +kernel
theorem d_m_checkIns_16 : decode M_m_checkIns.2.1 16 = .ok (.iload_n 3, 1) := by decide +kernel
theorem d_m_checkIns_17 : decode M_m_checkIns.2.1 17 = .ok (.bipush 32, 2) := by decide +kernel
theorem d_m_checkIns_19 : decode M_m_checkIns.2.1 19 = .ok (.iload_n 1, 1) := by decide +kernel
theorem d_m_checkIns_20 : decode M_m_checkIns.2.1 20 = .ok (.imul, 1) := by decide +kernel
theorem d_m_checkIns_21 : decode M_m_checkIns.2.1 21 = .ok (.aload_n 0, 1) := by decide +kernel
theorem d_m_checkIns_22 : decode M_m_checkIns.2.1 22 = .ok (.getfield 20, 3) := by decide +kernel
theorem d_m_checkIns_25 : decode M_m_checkIns.2.1 25 = .ok (.iload_n 1, 1) := by decide +kernel
theorem d_m_checkIns_26 : decode M_m_checkIns.2.1 26 = .ok (.iaload, 1) := by decide +kernel
theorem d_m_checkIns_27 : decode M_m_checkIns.2.1 27 = .ok (.iadd, 1) := by decide +kernel
theorem d_m_checkIns_28 : decode M_m_checkIns.2.1 28 = .ok (.if_icmp .ge 26, 3) := by decide +kernel
theorem d_m_checkIns_31 : decode M_m_checkIns.2.1 31 = .ok (.iload_n 2, 1) := by decide +kernel
theorem d_m_checkIns_32 : decode M_m_checkIns.2.1 32 = .ok (.aload_n 0, 1) := by decide +kernel
theorem d_m_checkIns_33 : decode M_m_checkIns.2.1 33 = .ok (.iload_n 1, 1) := by decide +kernel
theorem d_m_checkIns_34 : decode M_m_checkIns.2.1 34 = .ok (.iload_n 3, 1) := by decide +kernel
theorem d_m_checkIns_35 : decode M_m_checkIns.2.1 35 = .ok (.invokevirtual 164, 3) := by decide +kernel
theorem d_m_checkIns_38 : decode M_m_checkIns.2.1 38 = .ok (.ifCond .eq 7, 3) := by decide +kernel
theorem d_m_checkIns_41 : decode M_m_checkIns.2.1 41 = .ok (.iconst 1, 1) := by decide +kernel
theorem d_m_checkIns_42 : decode M_m_checkIns.2.1 42 = .ok (.goto 4, 3) := by decide +kernel
theorem d_m_checkIns_45 : decode M_m_checkIns.2.1 45 = .ok (.iconst 0, 1) := by decide +kernel
theorem d_m_checkIns_46 : decode M_m_checkIns.2.1 46 = .ok (.iadd, 1) := by decide +kernel
theorem d_m_checkIns_47 : decode M_m_checkIns.2.1 47 = .ok (.istore_n 2, 1) := by decide +kernel
theorem d_m_checkIns_48 : decode M_m_checkIns.2.1 48 = .ok (.iinc 3 1, 3) := by decide +kernel
theorem d_m_checkIns_51 : decode M_m_checkIns.2.1 51 = .ok (.goto (-35), 3) := by decide +kernel
theorem d_m_checkIns_54 : decode M_m_checkIns.2.1 54 = .ok (.iload_n 2, 1) := by decide +kernel
theorem d_m_checkIns_55 : decode M_m_checkIns.2.1 55 = .ok (.ireturn, 1) := by decide +kernel
theorem d_m_isCheckIn_0 : decode M_m_isCheckIn.2.1 0 = .ok (.aload_n 0, 1) := by decide +kernel
theorem d_m_isCheckIn_1 : decode M_m_isCheckIn.2.1 1 = .ok (.iload_n 2, 1) := by decide +kernel
theorem d_m_isCheckIn_2 : decode M_m_isCheckIn.2.1 2 = .ok (.invokevirtual 101, 3) := by decide +kernel
theorem d_m_isCheckIn_5 : decode M_m_isCheckIn.2.1 5 = .ok (.iconst 1, 1) := by decide +kernel
theorem d_m_isCheckIn_6 : decode M_m_isCheckIn.2.1 6 = .ok (.if_icmp .eq 5, 3) := by decide +kernel
theorem d_m_isCheckIn_9 : decode M_m_isCheckIn.2.1 9 = .ok (.iconst 0, 1) := by decide +kernel
theorem d_m_isCheckIn_10 : decode M_m_isCheckIn.2.1 10 = .ok (.ireturn, 1) := by decide +kernel
theorem d_m_isCheckIn_11 : decode M_m_isCheckIn.2.1 11 = .ok (.aload_n 0, 1) := by decide +kernel
theorem d_m_isCheckIn_12 : decode M_m_isCheckIn.2.1 12 = .ok (.iload_n 1, 1) := by decide +kernel
theorem d_m_isCheckIn_13 : decode M_m_isCheckIn.2.1 13 = .ok (.iload_n 2, 1) := by decide +kernel
theorem d_m_isCheckIn_14 : decode M_m_isCheckIn.2.1 14 = .ok (.invokevirtual 105, 3) := by decide +kernel
theorem d_m_isCheckIn_17 : decode M_m_isCheckIn.2.1 17 = .ok (.istore_n 3, 1) := by decide +kernel
theorem d_m_isCheckIn_18 : decode M_m_isCheckIn.2.1 18 = .ok (.iload_n 3, 1) := by decide +kernel
theorem d_m_isCheckIn_19 : decode M_m_isCheckIn.2.1 19 = .ok (.ifCond .lt 18, 3) := by decide +kernel
theorem d_m_isCheckIn_22 : decode M_m_isCheckIn.2.1 22 = .ok (.aload_n 0, 1) := by decide +kernel
theorem d_m_isCheckIn_23 : decode M_m_isCheckIn.2.1 23 = .ok (.iload_n 2, 1) := by decide +kernel
theorem d_m_isCheckIn_24 : decode M_m_isCheckIn.2.1 24 = .ok (.bipush 82, 2) := by decide +kernel
theorem d_m_isCheckIn_26 : decode M_m_isCheckIn.2.1 26 = .ok (.iload_n 3, 1) := by decide +kernel
theorem d_m_isCheckIn_27 : decode M_m_isCheckIn.2.1 27 = .ok (.invokevirtual 108, 3) := by decide +kernel
theorem d_m_isCheckIn_30 : decode M_m_isCheckIn.2.1 30 = .ok (.ifCond .eq 7, 3) := by decide +kernel
theorem d_m_isCheckIn_33 : decode M_m_isCheckIn.2.1 33 = .ok (.iconst 1, 1) := by decide +kernel
theorem d_m_isCheckIn_34 : decode M_m_isCheckIn.2.1 34 = .ok (.goto 4, 3) := by decide +kernel
theorem d_m_isCheckIn_37 : decode M_m_isCheckIn.2.1 37 = .ok (.iconst 0, 1) := by decide +kernel
theorem d_m_isCheckIn_38 : decode M_m_isCheckIn.2.1 38 = .ok (.ireturn, 1) := by decide +kernel
theorem d_m_timeline_0 : decode M_m_timeline.2.1 0 = .ok (.iload_n 1, 1) := by decide +kernel
theorem d_m_timeline_1 : decode M_m_timeline.2.1 1 = .ok (.invokestatic 129, 3) := by decide +kernel
theorem d_m_timeline_4 : decode M_m_timeline.2.1 4 = .ok (.ifCond .eq 7, 3) := by decide +kernel
theorem d_m_timeline_7 : decode M_m_timeline.2.1 7 = .ok (.iload_n 2, 1) := by decide +kernel
theorem d_m_timeline_8 : decode M_m_timeline.2.1 8 = .ok (.ifCond .ge 5, 3) := by decide +kernel
theorem d_m_timeline_11 : decode M_m_timeline.2.1 11 = .ok (.iconst (-1), 1) := by decide +kernel
theorem d_m_timeline_12 : decode M_m_timeline.2.1 12 = .ok (.ireturn, 1) := by decide +kernel
theorem d_m_timeline_13 : decode M_m_timeline.2.1 13 = .ok (.bipush 32, 2) := by decide +kernel
theorem d_m_timeline_15 : decode M_m_timeline.2.1 15 = .ok (.iload_n 1, 1) := by decide +kernel
theorem d_m_timeline_16 : decode M_m_timeline.2.1 16 = .ok (.imul, 1) := by decide +kernel
theorem d_m_timeline_17 : decode M_m_timeline.2.1 17 = .ok (.istore_n 3, 1) := by decide +kernel
theorem d_m_timeline_18 : decode M_m_timeline.2.1 18 = .ok (.iload_n 3, 1) := by decide +kernel
theorem d_m_timeline_19 : decode M_m_timeline.2.1 19 = .ok (.bipush 32, 2) := by decide +kernel
theorem d_m_timeline_21 : decode M_m_timeline.2.1 21 = .ok (.iload_n 1, 1) := by decide +kernel
theorem d_m_timeline_22 : decode M_m_timeline.2.1 22 = .ok (.imul, 1) := by decide +kernel
theorem d_m_timeline_23 : decode M_m_timeline.2.1 23 = .ok (.aload_n 0, 1) := by decide +kernel
theorem d_m_timeline_24 : decode M_m_timeline.2.1 24 = .ok (.getfield 20, 3) := by decide +kernel
theorem d_m_timeline_27 : decode M_m_timeline.2.1 27 = .ok (.iload_n 1, 1) := by decide +kernel
theorem d_m_timeline_28 : decode M_m_timeline.2.1 28 = .ok (.iaload, 1) := by decide +kernel
theorem d_m_timeline_29 : decode M_m_timeline.2.1 29 = .ok (.iadd, 1) := by decide +kernel
theorem d_m_timeline_30 : decode M_m_timeline.2.1 30 = .ok (.if_icmp .ge 127, 3) := by decide +kernel
theorem d_m_timeline_33 : decode M_m_timeline.2.1 33 = .ok (.aload_n 0, 1) := by decide +kernel
theorem d_m_timeline_34 : decode M_m_timeline.2.1 34 = .ok (.iload_n 1, 1) := by decide +kernel
theorem d_m_timeline_35 : decode M_m_timeline.2.1 35 = .ok (.iload_n 3, 1) := by decide +kernel
theorem d_m_timeline_36 : decode M_m_timeline.2.1 36 = .ok (.invokevirtual 164, 3) := by decide +kernel
theorem d_m_timeline_39 : decode M_m_timeline.2.1 39 = .ok (.ifCond .eq 112, 3) := by decide +kernel
theorem d_m_timeline_42 : decode M_m_timeline.2.1 42 = .ok (.aload_n 0, 1) := by decide +kernel
theorem d_m_timeline_43 : decode M_m_timeline.2.1 43 = .ok (.iload_n 3, 1) := by decide +kernel
theorem d_m_timeline_44 : decode M_m_timeline.2.1 44 = .ok (.invokevirtual 167, 3) := by decide +kernel
theorem d_m_timeline_47 : decode M_m_timeline.2.1 47 = .ok (.istore 4, 2) := by decide +kernel
theorem d_m_timeline_49 : decode M_m_timeline.2.1 49 = .ok (.iconst 0, 1) := by decide +kernel
theorem d_m_timeline_50 : decode M_m_timeline.2.1 50 = .ok (.istore 5, 2) := by decide +kernel
theorem d_m_timeline_52 : decode M_m_timeline.2.1 52 = .ok (.bipush 32, 2) := by decide +kernel
theorem d_m_timeline_54 : decode M_m_timeline.2.1 54 = .ok (.iload_n 1, 1) := by decide +kernel
theorem d_m_timeline_55 : decode M_m_timeline.2.1 55 = .ok (.imul, 1) := by decide +kernel
theorem d_m_timeline_56 : decode M_m_timeline.2.1 56 = .ok (.istore 6, 2) := by decide +kernel
theorem d_m_timeline_58 : decode M_m_timeline.2.1 58 = .ok (.iload 6, 2) := by decide +kernel
theorem d_m_timeline_60 : decode M_m_timeline.2.1 60 = .ok (.bipush 32, 2) := by decide +kernel
theorem d_m_timeline_62 : decode M_m_timeline.2.1 62 = .ok (.iload_n 1, 1) := by decide +kernel
theorem d_m_timeline_63 : decode M_m_timeline.2.1 63 = .ok (.imul, 1) := by decide +kernel
theorem d_m_timeline_64 : decode M_m_timeline.2.1 64 = .ok (.aload_n 0, 1) := by decide +kernel
theorem d_m_timeline_65 : decode M_m_timeline.2.1 65 = .ok (.getfield 20, 3) := by decide +kernel
theorem d_m_timeline_68 : decode M_m_timeline.2.1 68 = .ok (.iload_n 1, 1) := by decide +kernel
theorem d_m_timeline_69 : decode M_m_timeline.2.1 69 = .ok (.iaload, 1) := by decide +kernel
theorem d_m_timeline_70 : decode M_m_timeline.2.1 70 = .ok (.iadd, 1) := by decide +kernel
theorem d_m_timeline_71 : decode M_m_timeline.2.1 71 = .ok (.if_icmp .ge 67, 3) := by decide +kernel
theorem d_m_timeline_74 : decode M_m_timeline.2.1 74 = .ok (.aload_n 0, 1) := by decide +kernel
theorem d_m_timeline_75 : decode M_m_timeline.2.1 75 = .ok (.iload_n 1, 1) := by decide +kernel
theorem d_m_timeline_76 : decode M_m_timeline.2.1 76 = .ok (.iload 6, 2) := by decide +kernel
theorem d_m_timeline_78 : decode M_m_timeline.2.1 78 = .ok (.invokevirtual 164, 3) := by decide +kernel
theorem d_m_timeline_81 : decode M_m_timeline.2.1 81 = .ok (.ifCond .eq 51, 3) := by decide +kernel
theorem d_m_timeline_84 : decode M_m_timeline.2.1 84 = .ok (.aload_n 0, 1) := by decide +kernel
theorem d_m_timeline_85 : decode M_m_timeline.2.1 85 = .ok (.iload 6, 2) := by decide +kernel
theorem d_m_timeline_87 : decode M_m_timeline.2.1 87 = .ok (.invokevirtual 167, 3) := by decide +kernel
theorem d_m_timeline_90 : decode M_m_timeline.2.1 90 = .ok (.istore 7, 2) := by decide +kernel
theorem d_m_timeline_92 : decode M_m_timeline.2.1 92 = .ok (.iload 5, 2) := by decide +kernel
theorem d_m_timeline_94 : decode M_m_timeline.2.1 94 = .ok (.iload 7, 2) := by decide +kernel
theorem d_m_timeline_96 : decode M_m_timeline.2.1 96 = .ok (.iload 4, 2) := by decide +kernel
theorem d_m_timeline_98 : decode M_m_timeline.2.1 98 = .ok (.if_icmp .lt 26, 3) := by decide +kernel
theorem d_m_timeline_101 : decode M_m_timeline.2.1 101 = .ok (.iload 7, 2) := by decide +kernel
theorem d_m_timeline_103 : decode M_m_timeline.2.1 103 = .ok (.iload 4, 2) := by decide +kernel
theorem d_m_timeline_105 : decode M_m_timeline.2.1 105 = .ok (.if_icmp .ne 23, 3) := by decide +kernel
theorem d_m_timeline_108 : decode M_m_timeline.2.1 108 = .ok (.aload_n 0, 1) := by decide +kernel
theorem d_m_timeline_109 : decode M_m_timeline.2.1 109 = .ok (.getfield 17, 3) := by decide +kernel
theorem d_m_timeline_112 : decode M_m_timeline.2.1 112 = .ok (.iload 6, 2) := by decide +kernel
theorem d_m_timeline_114 : decode M_m_timeline.2.1 114 = .ok (.iaload, 1) := by decide +kernel
theorem d_m_timeline_115 : decode M_m_timeline.2.1 115 = .ok (.aload_n 0, 1) := by decide +kernel
theorem d_m_timeline_116 : decode M_m_timeline.2.1 116 = .ok (.getfield 17, 3) := by decide +kernel
theorem d_m_timeline_119 : decode M_m_timeline.2.1 119 = .ok (.iload_n 3, 1) := by decide +kernel
theorem d_m_timeline_120 : decode M_m_timeline.2.1 120 = .ok (.iaload, 1) := by decide +kernel
theorem d_m_timeline_121 : decode M_m_timeline.2.1 121 = .ok (.if_icmp .ge 7, 3) := by decide +kernel
theorem d_m_timeline_124 : decode M_m_timeline.2.1 124 = .ok (.iconst 1, 1) := by decide +kernel
theorem d_m_timeline_125 : decode M_m_timeline.2.1 125 = .ok (.goto 4, 3) := by decide +kernel
theorem d_m_timeline_128 : decode M_m_timeline.2.1 128 = .ok (.iconst 0, 1) := by decide +kernel
theorem d_m_timeline_129 : decode M_m_timeline.2.1 129 = .ok (.iadd, 1) := by decide +kernel
theorem d_m_timeline_130 : decode M_m_timeline.2.1 130 = .ok (.istore 5, 2) := by decide +kernel
theorem d_m_timeline_132 : decode M_m_timeline.2.1 132 = .ok (.iinc 6 1, 3) := by decide +kernel
theorem d_m_timeline_135 : decode M_m_timeline.2.1 135 = .ok (.goto (-77), 3) := by decide +kernel
theorem d_m_timeline_138 : decode M_m_timeline.2.1 138 = .ok (.iload 5, 2) := by decide +kernel
theorem d_m_timeline_140 : decode M_m_timeline.2.1 140 = .ok (.iload_n 2, 1) := by decide +kernel
theorem d_m_timeline_141 : decode M_m_timeline.2.1 141 = .ok (.if_icmp .ne 10, 3) := by decide +kernel
theorem d_m_timeline_144 : decode M_m_timeline.2.1 144 = .ok (.aload_n 0, 1) := by decide +kernel
theorem d_m_timeline_145 : decode M_m_timeline.2.1 145 = .ok (.getfield 17, 3) := by decide +kernel
theorem d_m_timeline_148 : decode M_m_timeline.2.1 148 = .ok (.iload_n 3, 1) := by decide +kernel
theorem d_m_timeline_149 : decode M_m_timeline.2.1 149 = .ok (.iaload, 1) := by decide +kernel
theorem d_m_timeline_150 : decode M_m_timeline.2.1 150 = .ok (.ireturn, 1) := by decide +kernel
theorem d_m_timeline_151 : decode M_m_timeline.2.1 151 = .ok (.iinc 3 1, 3) := by decide +kernel
theorem d_m_timeline_154 : decode M_m_timeline.2.1 154 = .ok (.goto (-136), 3) := by decide +kernel
theorem d_m_timeline_157 : decode M_m_timeline.2.1 157 = .ok (.iconst (-1), 1) := by decide +kernel
theorem d_m_timeline_158 : decode M_m_timeline.2.1 158 = .ok (.ireturn, 1) := by decide +kernel

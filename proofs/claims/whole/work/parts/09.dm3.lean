/-! Decode rows. Own work. -/
theorem d_m_timeOf_0 : decode M_m_timeOf.2.1 0 = .ok (.aload_n 0, 1) := by decide +kernel
theorem d_m_timeOf_1 : decode M_m_timeOf.2.1 1 = .ok (.iload_n 1, 1) := by decide +kernel
theorem d_m_timeOf_2 : decode M_m_timeOf.2.1 2 = .ok (.iconst 0, 1) := by decide +kernel
theorem d_m_timeOf_3 : decode M_m_timeOf.2.1 3 = .ok (.invokevirtual 90, 3) := by decide +kernel
theorem d_m_timeOf_6 : decode M_m_timeOf.2.1 6 = .ok (.pop, 1) := by decide +kernel
theorem d_m_timeOf_7 : decode M_m_timeOf.2.1 7 = .ok (.aload_n 0, 1) := by decide +kernel
theorem d_m_timeOf_8 : decode M_m_timeOf.2.1 8 = .ok (.getfield 83, 3) := by decide +kernel
theorem d_m_timeOf_11 : decode M_m_timeOf.2.1 11 = .ok (.ireturn, 1) := by decide +kernel
theorem d_m_children_0 : decode M_m_children.2.1 0 = .ok (.iload_n 1, 1) := by decide +kernel
theorem d_m_children_1 : decode M_m_children.2.1 1 = .ok (.invokestatic 129, 3) := by decide +kernel
theorem d_m_children_4 : decode M_m_children.2.1 4 = .ok (.ifCond .ne 5, 3) := by decide +kernel
theorem d_m_children_7 : decode M_m_children.2.1 7 = .ok (.iconst (-1), 1) := by decide +kernel
theorem d_m_children_8 : decode M_m_children.2.1 8 = .ok (.ireturn, 1) := by decide +kernel
theorem d_m_children_9 : decode M_m_children.2.1 9 = .ok (.iconst 0, 1) := by decide +kernel
theorem d_m_children_10 : decode M_m_children.2.1 10 = .ok (.istore_n 3, 1) := by decide +kernel
theorem d_m_children_11 : decode M_m_children.2.1 11 = .ok (.bipush 32, 2) := by decide +kernel
theorem d_m_children_13 : decode M_m_children.2.1 13 = .ok (.iload_n 1, 1) := by decide +kernel
theorem d_m_children_14 : decode M_m_children.2.1 14 = .ok (.imul, 1) := by decide +kernel
theorem d_m_children_15 : decode M_m_children.2.1 15 = .ok (.istore 4, 2) := by decide +kernel
theorem d_m_children_17 : decode M_m_children.2.1 17 = .ok (.iload 4, 2) := by decide +kernel
theorem d_m_children_19 : decode M_m_children.2.1 19 = .ok (.bipush 32, 2) := by decide +kernel
theorem d_m_children_21 : decode M_m_children.2.1 21 = .ok (.iload_n 1, 1) := by decide +kernel
theorem d_m_children_22 : decode M_m_children.2.1 22 = .ok (.imul, 1) := by decide +kernel
theorem d_m_children_23 : decode M_m_children.2.1 23 = .ok (.aload_n 0, 1) := by decide +kernel
theorem d_m_children_24 : decode M_m_children.2.1 24 = .ok (.getfield 20, 3) := by decide +kernel
theorem d_m_children_27 : decode M_m_children.2.1 27 = .ok (.iload_n 1, 1) := by decide +kernel
theorem d_m_children_28 : decode M_m_children.2.1 28 = .ok (.iaload, 1) := by decide +kernel
theorem d_m_children_29 : decode M_m_children.2.1 29 = .ok (.iadd, 1) := by decide +kernel
theorem d_m_children_30 : decode M_m_children.2.1 30 = .ok (.if_icmp .ge 43, 3) := by decide +kernel
theorem d_m_children_33 : decode M_m_children.2.1 33 = .ok (.iload_n 3, 1) := by decide +kernel
theorem d_m_children_34 : decode M_m_children.2.1 34 = .ok (.iload_n 2, 1) := by decide +kernel
theorem d_m_children_35 : decode M_m_children.2.1 35 = .ok (.ifCond .lt 29, 3) := by decide +kernel
theorem d_m_children_38 : decode M_m_children.2.1 38 = .ok (.aload_n 0, 1) := by decide +kernel
theorem d_m_children_39 : decode M_m_children.2.1 39 = .ok (.iload_n 1, 1) := by decide +kernel
theorem d_m_children_40 : decode M_m_children.2.1 40 = .ok (.iload 4, 2) := by decide +kernel
theorem d_m_children_42 : decode M_m_children.2.1 42 = .ok (.invokevirtual 164, 3) := by decide +kernel
theorem d_m_children_45 : decode M_m_children.2.1 45 = .ok (.ifCond .eq 19, 3) := by decide +kernel
theorem d_m_children_48 : decode M_m_children.2.1 48 = .ok (.aload_n 0, 1) := by decide +kernel
theorem d_m_children_49 : decode M_m_children.2.1 49 = .ok (.iload 4, 2) := by decide +kernel
theorem d_m_children_51 : decode M_m_children.2.1 51 = .ok (.bipush 80, 2) := by decide +kernel
theorem d_m_children_53 : decode M_m_children.2.1 53 = .ok (.iload_n 2, 1) := by decide +kernel
theorem d_m_children_54 : decode M_m_children.2.1 54 = .ok (.invokevirtual 108, 3) := by decide +kernel
theorem d_m_children_57 : decode M_m_children.2.1 57 = .ok (.ifCond .eq 7, 3) := by decide +kernel
theorem d_m_children_60 : decode M_m_children.2.1 60 = .ok (.iconst 1, 1) := by decide +kernel
theorem d_m_children_61 : decode M_m_children.2.1 61 = .ok (.goto 4, 3) := by decide +kernel
theorem d_m_children_64 : decode M_m_children.2.1 64 = .ok (.iconst 0, 1) := by decide +kernel
theorem d_m_children_65 : decode M_m_children.2.1 65 = .ok (.iadd, 1) := by decide +kernel
theorem d_m_children_66 : decode M_m_children.2.1 66 = .ok (.istore_n 3, 1) := by decide +kernel
theorem d_m_children_67 : decode M_m_children.2.1 67 = .ok (.iinc 4 1, 3) := by decide +kernel
theorem d_m_children_70 : decode M_m_children.2.1 70 = .ok (.goto (-53), 3) := by decide +kernel
theorem d_m_children_73 : decode M_m_children.2.1 73 = .ok (.iload_n 3, 1) := by decide +kernel
theorem d_m_children_74 : decode M_m_children.2.1 74 = .ok (.ireturn, 1) := by decide +kernel
theorem d_m_leaves_0 : decode M_m_leaves.2.1 0 = .ok (.iload_n 1, 1) := by decide +kernel
theorem d_m_leaves_1 : decode M_m_leaves.2.1 1 = .ok (.invokestatic 129, 3) := by decide +kernel
theorem d_m_leaves_4 : decode M_m_leaves.2.1 4 = .ok (.ifCond .ne 5, 3) := by decide +kernel
theorem d_m_leaves_7 : decode M_m_leaves.2.1 7 = .ok (.iconst (-1), 1) := by decide +kernel
theorem d_m_leaves_8 : decode M_m_leaves.2.1 8 = .ok (.ireturn, 1) := by decide +kernel
theorem d_m_leaves_9 : decode M_m_leaves.2.1 9 = .ok (.iconst 0, 1) := by decide +kernel
theorem d_m_leaves_10 : decode M_m_leaves.2.1 10 = .ok (.istore_n 2, 1) := by decide +kernel
theorem d_m_leaves_11 : decode M_m_leaves.2.1 11 = .ok (.bipush 32, 2) := by decide +kernel
theorem d_m_leaves_13 : decode M_m_leaves.2.1 13 = .ok (.iload_n 1, 1) := by decide +kernel
theorem d_m_leaves_14 : decode M_m_leaves.2.1 14 = .ok (.imul, 1) := by decide +kernel
theorem d_m_leaves_15 : decode M_m_leaves.2.1 15 = .ok (.istore_n 3, 1) := by decide +kernel
theorem d_m_leaves_16 : decode M_m_leaves.2.1 16 = .ok (.iload_n 3, 1) := by decide +kernel
theorem d_m_leaves_17 : decode M_m_leaves.2.1 17 = .ok (.bipush 32, 2) := by decide +kernel
theorem d_m_leaves_19 : decode M_m_leaves.2.1 19 = .ok (.iload_n 1, 1) := by decide +kernel
theorem d_m_leaves_20 : decode M_m_leaves.2.1 20 = .ok (.imul, 1) := by decide +kernel
theorem d_m_leaves_21 : decode M_m_leaves.2.1 21 = .ok (.aload_n 0, 1) := by decide +kernel
theorem d_m_leaves_22 : decode M_m_leaves.2.1 22 = .ok (.getfield 20, 3) := by decide +kernel
theorem d_m_leaves_25 : decode M_m_leaves.2.1 25 = .ok (.iload_n 1, 1) := by decide +kernel
theorem d_m_leaves_26 : decode M_m_leaves.2.1 26 = .ok (.iaload, 1) := by decide +kernel
theorem d_m_leaves_27 : decode M_m_leaves.2.1 27 = .ok (.iadd, 1) := by decide +kernel
theorem d_m_leaves_28 : decode M_m_leaves.2.1 28 = .ok (.if_icmp .ge 40, 3) := by decide +kernel
theorem d_m_leaves_31 : decode M_m_leaves.2.1 31 = .ok (.iload_n 2, 1) := by decide +kernel
theorem d_m_leaves_32 : decode M_m_leaves.2.1 32 = .ok (.aload_n 0, 1) := by decide +kernel
theorem d_m_leaves_33 : decode M_m_leaves.2.1 33 = .ok (.iload_n 1, 1) := by decide +kernel
theorem d_m_leaves_34 : decode M_m_leaves.2.1 34 = .ok (.iload_n 3, 1) := by decide +kernel
theorem d_m_leaves_35 : decode M_m_leaves.2.1 35 = .ok (.invokevirtual 164, 3) := by decide +kernel
theorem d_m_leaves_38 : decode M_m_leaves.2.1 38 = .ok (.ifCond .eq 21, 3) := by decide +kernel
theorem d_m_leaves_41 : decode M_m_leaves.2.1 41 = .ok (.aload_n 0, 1) := by decide +kernel
theorem d_m_leaves_42 : decode M_m_leaves.2.1 42 = .ok (.iload_n 1, 1) := by decide +kernel
theorem d_m_leaves_43 : decode M_m_leaves.2.1 43 = .ok (.aload_n 0, 1) := by decide +kernel
theorem d_m_leaves_44 : decode M_m_leaves.2.1 44 = .ok (.getfield 17, 3) := by decide +kernel
theorem d_m_leaves_47 : decode M_m_leaves.2.1 47 = .ok (.iload_n 3, 1) := by decide +kernel
theorem d_m_leaves_48 : decode M_m_leaves.2.1 48 = .ok (.iaload, 1) := by decide +kernel
theorem d_m_leaves_49 : decode M_m_leaves.2.1 49 = .ok (.invokevirtual 170, 3) := by decide +kernel
theorem d_m_leaves_52 : decode M_m_leaves.2.1 52 = .ok (.ifCond .ne 7, 3) := by decide +kernel
theorem d_m_leaves_55 : decode M_m_leaves.2.1 55 = .ok (.iconst 1, 1) := by decide +kernel
theorem d_m_leaves_56 : decode M_m_leaves.2.1 56 = .ok (.goto 4, 3) := by decide +kernel
theorem d_m_leaves_59 : decode M_m_leaves.2.1 59 = .ok (.iconst 0, 1) := by decide +kernel
theorem d_m_leaves_60 : decode M_m_leaves.2.1 60 = .ok (.iadd, 1) := by decide +kernel
theorem d_m_leaves_61 : decode M_m_leaves.2.1 61 = .ok (.istore_n 2, 1) := by decide +kernel
theorem d_m_leaves_62 : decode M_m_leaves.2.1 62 = .ok (.iinc 3 1, 3) := by decide +kernel
theorem d_m_leaves_65 : decode M_m_leaves.2.1 65 = .ok (.goto (-49), 3) := by decide +kernel
theorem d_m_leaves_68 : decode M_m_leaves.2.1 68 = .ok (.iload_n 2, 1) := by decide +kernel
theorem d_m_leaves_69 : decode M_m_leaves.2.1 69 = .ok (.ireturn, 1) := by decide +kernel
theorem d_m_tag_0 : decode M_m_tag.2.1 0 = .ok (.iload_n 1, 1) := by decide +kernel
theorem d_m_tag_1 : decode M_m_tag.2.1 1 = .ok (.invokestatic 129, 3) := by decide +kernel
theorem d_m_tag_4 : decode M_m_tag.2.1 4 = .ok (.ifCond .eq 13, 3) := by decide +kernel
theorem d_m_tag_7 : decode M_m_tag.2.1 7 = .ok (.iload_n 3, 1) := by decide +kernel
theorem d_m_tag_8 : decode M_m_tag.2.1 8 = .ok (.ifCond .lt 9, 3) := by decide +kernel
theorem d_m_tag_11 : decode M_m_tag.2.1 11 = .ok (.iload_n 3, 1) := by decide +kernel
theorem d_m_tag_12 : decode M_m_tag.2.1 12 = .ok (.bipush 9, 2) := by decide +kernel
theorem d_m_tag_14 : decode M_m_tag.2.1 14 = .ok (.if_icmp .le 5, 3) := by decide +kernel
theorem d_m_tag_17 : decode M_m_tag.2.1 17 = .ok (.iconst (-1), 1) := by decide +kernel
theorem d_m_tag_18 : decode M_m_tag.2.1 18 = .ok (.ireturn, 1) := by decide +kernel
theorem d_m_tag_19 : decode M_m_tag.2.1 19 = .ok (.iconst (-1), 1) := by decide +kernel
theorem d_m_tag_20 : decode M_m_tag.2.1 20 = .ok (.istore 4, 2) := by decide +kernel
theorem d_m_tag_22 : decode M_m_tag.2.1 22 = .ok (.iconst (-1), 1) := by decide +kernel
theorem d_m_tag_23 : decode M_m_tag.2.1 23 = .ok (.istore 5, 2) := by decide +kernel
theorem d_m_tag_25 : decode M_m_tag.2.1 25 = .ok (.iconst (-1), 1) := by decide +kernel
theorem d_m_tag_26 : decode M_m_tag.2.1 26 = .ok (.istore 6, 2) := by decide +kernel
theorem d_m_tag_28 : decode M_m_tag.2.1 28 = .ok (.bipush 32, 2) := by decide +kernel
theorem d_m_tag_30 : decode M_m_tag.2.1 30 = .ok (.iload_n 1, 1) := by decide +kernel
theorem d_m_tag_31 : decode M_m_tag.2.1 31 = .ok (.imul, 1) := by decide +kernel
theorem d_m_tag_32 : decode M_m_tag.2.1 32 = .ok (.istore 7, 2) := by decide +kernel
theorem d_m_tag_34 : decode M_m_tag.2.1 34 = .ok (.iload 7, 2) := by decide +kernel
theorem d_m_tag_36 : decode M_m_tag.2.1 36 = .ok (.bipush 32, 2) := by decide +kernel
theorem d_m_tag_38 : decode M_m_tag.2.1 38 = .ok (.iload_n 1, 1) := by decide +kernel
theorem d_m_tag_39 : decode M_m_tag.2.1 39 = .ok (.imul, 1) := by decide +kernel
theorem d_m_tag_40 : decode M_m_tag.2.1 40 = .ok (.aload_n 0, 1) := by decide +kernel
theorem d_m_tag_41 : decode M_m_tag.2.1 41 = .ok (.getfield 20, 3) := by decide +kernel
theorem d_m_tag_44 : decode M_m_tag.2.1 44 = .ok (.iload_n 1, 1) := by decide +kernel
theorem d_m_tag_45 : decode M_m_tag.2.1 45 = .ok (.iaload, 1) := by decide +kernel
theorem d_m_tag_46 : decode M_m_tag.2.1 46 = .ok (.iadd, 1) := by decide +kernel
theorem d_m_tag_47 : decode M_m_tag.2.1 47 = .ok (.if_icmp .ge 134, 3) := by decide +kernel
theorem d_m_tag_50 : decode M_m_tag.2.1 50 = .ok (.aload_n 0, 1) := by decide +kernel
theorem d_m_tag_51 : decode M_m_tag.2.1 51 = .ok (.iload 7, 2) := by decide +kernel
theorem d_m_tag_53 : decode M_m_tag.2.1 53 = .ok (.invokevirtual 101, 3) := by decide +kernel
theorem d_m_tag_56 : decode M_m_tag.2.1 56 = .ok (.istore 8, 2) := by decide +kernel
theorem d_m_tag_58 : decode M_m_tag.2.1 58 = .ok (.iload 8, 2) := by decide +kernel
theorem d_m_tag_60 : decode M_m_tag.2.1 60 = .ok (.iconst 2, 1) := by decide +kernel
theorem d_m_tag_61 : decode M_m_tag.2.1 61 = .ok (.if_icmp .ne 18, 3) := by decide +kernel
theorem d_m_tag_64 : decode M_m_tag.2.1 64 = .ok (.iload_n 2, 1) := by decide +kernel
theorem d_m_tag_65 : decode M_m_tag.2.1 65 = .ok (.ifCond .lt 14, 3) := by decide +kernel
theorem d_m_tag_68 : decode M_m_tag.2.1 68 = .ok (.aload_n 0, 1) := by decide +kernel
theorem d_m_tag_69 : decode M_m_tag.2.1 69 = .ok (.iload 7, 2) := by decide +kernel
theorem d_m_tag_71 : decode M_m_tag.2.1 71 = .ok (.iload_n 3, 1) := by decide +kernel
theorem d_m_tag_72 : decode M_m_tag.2.1 72 = .ok (.iload_n 2, 1) := by decide +kernel
theorem d_m_tag_73 : decode M_m_tag.2.1 73 = .ok (.invokevirtual 173, 3) := by decide +kernel
theorem d_m_tag_76 : decode M_m_tag.2.1 76 = .ok (.goto 32, 3) := by decide +kernel
theorem d_m_tag_79 : decode M_m_tag.2.1 79 = .ok (.iload 8, 2) := by decide +kernel
theorem d_m_tag_81 : decode M_m_tag.2.1 81 = .ok (.iconst 1, 1) := by decide +kernel
theorem d_m_tag_82 : decode M_m_tag.2.1 82 = .ok (.if_icmp .ne 25, 3) := by decide +kernel
theorem d_m_tag_85 : decode M_m_tag.2.1 85 = .ok (.aload_n 0, 1) := by decide +kernel
theorem d_m_tag_86 : decode M_m_tag.2.1 86 = .ok (.getfield 17, 3) := by decide +kernel
theorem d_m_tag_89 : decode M_m_tag.2.1 89 = .ok (.iload 7, 2) := by decide +kernel
theorem d_m_tag_91 : decode M_m_tag.2.1 91 = .ok (.iaload, 1) := by decide +kernel
theorem d_m_tag_92 : decode M_m_tag.2.1 92 = .ok (.iload_n 2, 1) := by decide +kernel
theorem d_m_tag_93 : decode M_m_tag.2.1 93 = .ok (.if_icmp .ne 14, 3) := by decide +kernel
theorem d_m_tag_96 : decode M_m_tag.2.1 96 = .ok (.aload_n 0, 1) := by decide +kernel
theorem d_m_tag_97 : decode M_m_tag.2.1 97 = .ok (.iload 7, 2) := by decide +kernel
theorem d_m_tag_99 : decode M_m_tag.2.1 99 = .ok (.iload_n 3, 1) := by decide +kernel
theorem d_m_tag_100 : decode M_m_tag.2.1 100 = .ok (.iconst (-1), 1) := by decide +kernel
theorem d_m_tag_101 : decode M_m_tag.2.1 101 = .ok (.invokevirtual 173, 3) := by decide +kernel
theorem d_m_tag_104 : decode M_m_tag.2.1 104 = .ok (.goto 4, 3) := by decide +kernel
theorem d_m_tag_107 : decode M_m_tag.2.1 107 = .ok (.iconst (-1), 1) := by decide +kernel
theorem d_m_tag_108 : decode M_m_tag.2.1 108 = .ok (.istore 9, 2) := by decide +kernel
theorem d_m_tag_110 : decode M_m_tag.2.1 110 = .ok (.iload 9, 2) := by decide +kernel
theorem d_m_tag_112 : decode M_m_tag.2.1 112 = .ok (.ifCond .ge 7, 3) := by decide +kernel
theorem d_m_tag_115 : decode M_m_tag.2.1 115 = .ok (.iconst (-1), 1) := by decide +kernel
theorem d_m_tag_116 : decode M_m_tag.2.1 116 = .ok (.goto 9, 3) := by decide +kernel
theorem d_m_tag_119 : decode M_m_tag.2.1 119 = .ok (.aload_n 0, 1) := by decide +kernel
theorem d_m_tag_120 : decode M_m_tag.2.1 120 = .ok (.iload 7, 2) := by decide +kernel
theorem d_m_tag_122 : decode M_m_tag.2.1 122 = .ok (.invokevirtual 167, 3) := by decide +kernel
theorem d_m_tag_125 : decode M_m_tag.2.1 125 = .ok (.istore 10, 2) := by decide +kernel
theorem d_m_tag_127 : decode M_m_tag.2.1 127 = .ok (.iload 9, 2) := by decide +kernel
theorem d_m_tag_129 : decode M_m_tag.2.1 129 = .ok (.ifCond .lt 46, 3) := by decide +kernel
theorem d_m_tag_132 : decode M_m_tag.2.1 132 = .ok (.iload 10, 2) := by decide +kernel
theorem d_m_tag_134 : decode M_m_tag.2.1 134 = .ok (.iload 5, 2) := by decide +kernel
theorem d_m_tag_136 : decode M_m_tag.2.1 136 = .ok (.if_icmp .gt 22, 3) := by decide +kernel
theorem d_m_tag_139 : decode M_m_tag.2.1 139 = .ok (.iload 10, 2) := by decide +kernel
theorem d_m_tag_141 : decode M_m_tag.2.1 141 = .ok (.iload 5, 2) := by decide +kernel
theorem d_m_tag_143 : decode M_m_tag.2.1 143 = .ok (.if_icmp .ne 32, 3) := by decide +kernel
theorem d_m_tag_146 : decode M_m_tag.2.1 146 = .ok (.aload_n 0, 1) := by decide +kernel
theorem d_m_tag_147 : decode M_m_tag.2.1 147 = .ok (.getfield 17, 3) := by decide +kernel
theorem d_m_tag_150 : decode M_m_tag.2.1 150 = .ok (.iload 7, 2) := by decide +kernel
theorem d_m_tag_152 : decode M_m_tag.2.1 152 = .ok (.iaload, 1) := by decide +kernel
theorem d_m_tag_153 : decode M_m_tag.2.1 153 = .ok (.iload 6, 2) := by decide +kernel
theorem d_m_tag_155 : decode M_m_tag.2.1 155 = .ok (.if_icmp .le 20, 3) := by decide +kernel
theorem d_m_tag_158 : decode M_m_tag.2.1 158 = .ok (.iload 9, 2) := by decide +kernel
theorem d_m_tag_160 : decode M_m_tag.2.1 160 = .ok (.istore 4, 2) := by decide +kernel
theorem d_m_tag_162 : decode M_m_tag.2.1 162 = .ok (.iload 10, 2) := by decide +kernel
theorem d_m_tag_164 : decode M_m_tag.2.1 164 = .ok (.istore 5, 2) := by decide +kernel
theorem d_m_tag_166 : decode M_m_tag.2.1 166 = .ok (.aload_n 0, 1) := by decide +kernel
theorem d_m_tag_167 : decode M_m_tag.2.1 167 = .ok (.getfield 17, 3) := by decide +kernel
theorem d_m_tag_170 : decode M_m_tag.2.1 170 = .ok (.iload 7, 2) := by decide +kernel
theorem d_m_tag_172 : decode M_m_tag.2.1 172 = .ok (.iaload, 1) := by decide +kernel
theorem d_m_tag_173 : decode M_m_tag.2.1 173 = .ok (.istore 6, 2) := by decide +kernel
theorem d_m_tag_175 : decode M_m_tag.2.1 175 = .ok (.iinc 7 1, 3) := by decide +kernel
theorem d_m_tag_178 : decode M_m_tag.2.1 178 = .ok (.goto (-144), 3) := by decide +kernel
theorem d_m_tag_181 : decode M_m_tag.2.1 181 = .ok (.iload 4, 2) := by decide +kernel
theorem d_m_tag_183 : decode M_m_tag.2.1 183 = .ok (.ireturn, 1) := by decide +kernel
theorem d_m_signOf_0 : decode M_m_signOf.2.1 0 = .ok (.iconst (-1), 1) := by decide +kernel
theorem d_m_signOf_1 : decode M_m_signOf.2.1 1 = .ok (.istore 4, 2) := by decide +kernel
theorem d_m_signOf_3 : decode M_m_signOf.2.1 3 = .ok (.iconst 0, 1) := by decide +kernel
theorem d_m_signOf_4 : decode M_m_signOf.2.1 4 = .ok (.istore 5, 2) := by decide +kernel
theorem d_m_signOf_6 : decode M_m_signOf.2.1 6 = .ok (.iload 5, 2) := by decide +kernel
theorem d_m_signOf_8 : decode M_m_signOf.2.1 8 = .ok (.aload_n 0, 1) := by decide +kernel
theorem d_m_signOf_9 : decode M_m_signOf.2.1 9 = .ok (.getfield 13, 3) := by decide +kernel
theorem d_m_signOf_12 : decode M_m_signOf.2.1 12 = .ok (.iload_n 1, 1) := by decide +kernel
theorem d_m_signOf_13 : decode M_m_signOf.2.1 13 = .ok (.iaload, 1) := by decide +kernel
theorem d_m_signOf_14 : decode M_m_signOf.2.1 14 = .ok (.if_icmp .ge 61, 3) := by decide +kernel
theorem d_m_signOf_17 : decode M_m_signOf.2.1 17 = .ok (.aload_n 0, 1) := by decide +kernel
theorem d_m_signOf_18 : decode M_m_signOf.2.1 18 = .ok (.iload_n 1, 1) := by decide +kernel
theorem d_m_signOf_19 : decode M_m_signOf.2.1 19 = .ok (.iload 5, 2) := by decide +kernel
theorem d_m_signOf_21 : decode M_m_signOf.2.1 21 = .ok (.invokevirtual 90, 3) := by decide +kernel
theorem d_m_signOf_24 : decode M_m_signOf.2.1 24 = .ok (.ifCond .eq 51, 3) := by decide +kernel
theorem d_m_signOf_27 : decode M_m_signOf.2.1 27 = .ok (.aload_n 0, 1) := by decide +kernel
theorem d_m_signOf_28 : decode M_m_signOf.2.1 28 = .ok (.getfield 51, 3) := by decide +kernel
theorem d_m_signOf_31 : decode M_m_signOf.2.1 31 = .ok (.istore 5, 2) := by decide +kernel
theorem d_m_signOf_33 : decode M_m_signOf.2.1 33 = .ok (.aload_n 0, 1) := by decide +kernel
theorem d_m_signOf_34 : decode M_m_signOf.2.1 34 = .ok (.getfield 47, 3) := by decide +kernel
theorem d_m_signOf_37 : decode M_m_signOf.2.1 37 = .ok (.bipush 84, 2) := by decide +kernel
theorem d_m_signOf_39 : decode M_m_signOf.2.1 39 = .ok (.if_icmp .ne (-33), 3) := by decide +kernel
theorem d_m_signOf_42 : decode M_m_signOf.2.1 42 = .ok (.aload_n 0, 1) := by decide +kernel
theorem d_m_signOf_43 : decode M_m_signOf.2.1 43 = .ok (.getfield 74, 3) := by decide +kernel
theorem d_m_signOf_46 : decode M_m_signOf.2.1 46 = .ok (.iload_n 2, 1) := by decide +kernel
theorem d_m_signOf_47 : decode M_m_signOf.2.1 47 = .ok (.if_icmp .ne (-41), 3) := by decide +kernel
theorem d_m_signOf_50 : decode M_m_signOf.2.1 50 = .ok (.aload_n 0, 1) := by decide +kernel
theorem d_m_signOf_51 : decode M_m_signOf.2.1 51 = .ok (.getfield 58, 3) := by decide +kernel
theorem d_m_signOf_54 : decode M_m_signOf.2.1 54 = .ok (.iload_n 3, 1) := by decide +kernel
theorem d_m_signOf_55 : decode M_m_signOf.2.1 55 = .ok (.if_icmp .ne (-49), 3) := by decide +kernel
theorem d_m_signOf_58 : decode M_m_signOf.2.1 58 = .ok (.aload_n 0, 1) := by decide +kernel
theorem d_m_signOf_59 : decode M_m_signOf.2.1 59 = .ok (.getfield 86, 3) := by decide +kernel
theorem d_m_signOf_62 : decode M_m_signOf.2.1 62 = .ok (.ifCond .eq 7, 3) := by decide +kernel
theorem d_m_signOf_65 : decode M_m_signOf.2.1 65 = .ok (.iconst 1, 1) := by decide +kernel
theorem d_m_signOf_66 : decode M_m_signOf.2.1 66 = .ok (.goto 4, 3) := by decide +kernel
theorem d_m_signOf_69 : decode M_m_signOf.2.1 69 = .ok (.iconst 0, 1) := by decide +kernel
theorem d_m_signOf_70 : decode M_m_signOf.2.1 70 = .ok (.istore 4, 2) := by decide +kernel
theorem d_m_signOf_72 : decode M_m_signOf.2.1 72 = .ok (.goto (-66), 3) := by decide +kernel
theorem d_m_signOf_75 : decode M_m_signOf.2.1 75 = .ok (.iload 4, 2) := by decide +kernel
theorem d_m_signOf_77 : decode M_m_signOf.2.1 77 = .ok (.ireturn, 1) := by decide +kernel
theorem d_m_loose_0 : decode M_m_loose.2.1 0 = .ok (.iload_n 1, 1) := by decide +kernel
theorem d_m_loose_1 : decode M_m_loose.2.1 1 = .ok (.invokestatic 129, 3) := by decide +kernel
theorem d_m_loose_4 : decode M_m_loose.2.1 4 = .ok (.ifCond .ne 5, 3) := by decide +kernel
theorem d_m_loose_7 : decode M_m_loose.2.1 7 = .ok (.iconst (-1), 1) := by decide +kernel
theorem d_m_loose_8 : decode M_m_loose.2.1 8 = .ok (.ireturn, 1) := by decide +kernel
theorem d_m_loose_9 : decode M_m_loose.2.1 9 = .ok (.aload_n 0, 1) := by decide +kernel
theorem d_m_loose_10 : decode M_m_loose.2.1 10 = .ok (.iload_n 1, 1) := by decide +kernel
theorem d_m_loose_11 : decode M_m_loose.2.1 11 = .ok (.invokevirtual 149, 3) := by decide +kernel
theorem d_m_loose_14 : decode M_m_loose.2.1 14 = .ok (.aload_n 0, 1) := by decide +kernel
theorem d_m_loose_15 : decode M_m_loose.2.1 15 = .ok (.getfield 136, 3) := by decide +kernel
theorem d_m_loose_18 : decode M_m_loose.2.1 18 = .ok (.ireturn, 1) := by decide +kernel
theorem d_m_rebuild_0 : decode M_m_rebuild.2.1 0 = .ok (.iload_n 1, 1) := by decide +kernel
theorem d_m_rebuild_1 : decode M_m_rebuild.2.1 1 = .ok (.invokestatic 129, 3) := by decide +kernel
theorem d_m_rebuild_4 : decode M_m_rebuild.2.1 4 = .ok (.ifCond .ne 5, 3) := by decide +kernel
theorem d_m_rebuild_7 : decode M_m_rebuild.2.1 7 = .ok (.iconst (-1), 1) := by decide +kernel
theorem d_m_rebuild_8 : decode M_m_rebuild.2.1 8 = .ok (.ireturn, 1) := by decide +kernel
theorem d_m_rebuild_9 : decode M_m_rebuild.2.1 9 = .ok (.aload_n 0, 1) := by decide +kernel
theorem d_m_rebuild_10 : decode M_m_rebuild.2.1 10 = .ok (.getfield 26, 3) := by decide +kernel
theorem d_m_rebuild_13 : decode M_m_rebuild.2.1 13 = .ok (.iload_n 1, 1) := by decide +kernel
theorem d_m_rebuild_14 : decode M_m_rebuild.2.1 14 = .ok (.iconst 0, 1) := by decide +kernel
theorem d_m_rebuild_15 : decode M_m_rebuild.2.1 15 = .ok (.iastore, 1) := by decide +kernel
theorem d_m_rebuild_16 : decode M_m_rebuild.2.1 16 = .ok (.aload_n 0, 1) := by decide +kernel
theorem d_m_rebuild_17 : decode M_m_rebuild.2.1 17 = .ok (.iload_n 1, 1) := by decide +kernel
theorem d_m_rebuild_18 : decode M_m_rebuild.2.1 18 = .ok (.invokevirtual 176, 3) := by decide +kernel
theorem d_m_rebuild_21 : decode M_m_rebuild.2.1 21 = .ok (.ireturn, 1) := by decide +kernel

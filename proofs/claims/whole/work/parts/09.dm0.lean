/-! Decode rows. Own work. -/
theorem d_m_init_0 : decode M_m_init.2.1 0 = .ok (.aload_n 0, 1) := by decide +kernel
theorem d_m_init_1 : decode M_m_init.2.1 1 = .ok (.invokespecial 1, 3) := by decide +kernel
theorem d_m_init_4 : decode M_m_init.2.1 4 = .ok (.aload_n 0, 1) := by decide +kernel
theorem d_m_init_5 : decode M_m_init.2.1 5 = .ok (.sipush 15840, 3) := by decide +kernel
theorem d_m_init_8 : decode M_m_init.2.1 8 = .ok (.newarray .byte, 2) := by decide +kernel
theorem d_m_init_10 : decode M_m_init.2.1 10 = .ok (.putfield 7, 3) := by decide +kernel
theorem d_m_init_13 : decode M_m_init.2.1 13 = .ok (.aload_n 0, 1) := by decide +kernel
theorem d_m_init_14 : decode M_m_init.2.1 14 = .ok (.bipush 66, 2) := by decide +kernel
theorem d_m_init_16 : decode M_m_init.2.1 16 = .ok (.newarray .int, 2) := by decide +kernel
theorem d_m_init_18 : decode M_m_init.2.1 18 = .ok (.putfield 13, 3) := by decide +kernel
theorem d_m_init_21 : decode M_m_init.2.1 21 = .ok (.aload_n 0, 1) := by decide +kernel
theorem d_m_init_22 : decode M_m_init.2.1 22 = .ok (.bipush 66, 2) := by decide +kernel
theorem d_m_init_24 : decode M_m_init.2.1 24 = .ok (.newarray .int, 2) := by decide +kernel
theorem d_m_init_26 : decode M_m_init.2.1 26 = .ok (.putfield 17, 3) := by decide +kernel
theorem d_m_init_29 : decode M_m_init.2.1 29 = .ok (.aload_n 0, 1) := by decide +kernel
theorem d_m_init_30 : decode M_m_init.2.1 30 = .ok (.iconst 2, 1) := by decide +kernel
theorem d_m_init_31 : decode M_m_init.2.1 31 = .ok (.newarray .int, 2) := by decide +kernel
theorem d_m_init_33 : decode M_m_init.2.1 33 = .ok (.putfield 20, 3) := by decide +kernel
theorem d_m_init_36 : decode M_m_init.2.1 36 = .ok (.aload_n 0, 1) := by decide +kernel
theorem d_m_init_37 : decode M_m_init.2.1 37 = .ok (.bipush 64, 2) := by decide +kernel
theorem d_m_init_39 : decode M_m_init.2.1 39 = .ok (.newarray .int, 2) := by decide +kernel
theorem d_m_init_41 : decode M_m_init.2.1 41 = .ok (.putfield 23, 3) := by decide +kernel
theorem d_m_init_44 : decode M_m_init.2.1 44 = .ok (.aload_n 0, 1) := by decide +kernel
theorem d_m_init_45 : decode M_m_init.2.1 45 = .ok (.iconst 2, 1) := by decide +kernel
theorem d_m_init_46 : decode M_m_init.2.1 46 = .ok (.newarray .int, 2) := by decide +kernel
theorem d_m_init_48 : decode M_m_init.2.1 48 = .ok (.putfield 26, 3) := by decide +kernel
theorem d_m_init_51 : decode M_m_init.2.1 51 = .ok (.aload_n 0, 1) := by decide +kernel
theorem d_m_init_52 : decode M_m_init.2.1 52 = .ok (.sipush 1800, 3) := by decide +kernel
theorem d_m_init_55 : decode M_m_init.2.1 55 = .ok (.newarray .int, 2) := by decide +kernel
theorem d_m_init_57 : decode M_m_init.2.1 57 = .ok (.putfield 29, 3) := by decide +kernel
theorem d_m_init_60 : decode M_m_init.2.1 60 = .ok (.aload_n 0, 1) := by decide +kernel
theorem d_m_init_61 : decode M_m_init.2.1 61 = .ok (.iconst 2, 1) := by decide +kernel
theorem d_m_init_62 : decode M_m_init.2.1 62 = .ok (.newarray .int, 2) := by decide +kernel
theorem d_m_init_64 : decode M_m_init.2.1 64 = .ok (.putfield 32, 3) := by decide +kernel
theorem d_m_init_67 : decode M_m_init.2.1 67 = .ok (.aload_n 0, 1) := by decide +kernel
theorem d_m_init_68 : decode M_m_init.2.1 68 = .ok (.sipush 900, 3) := by decide +kernel
theorem d_m_init_71 : decode M_m_init.2.1 71 = .ok (.newarray .int, 2) := by decide +kernel
theorem d_m_init_73 : decode M_m_init.2.1 73 = .ok (.putfield 35, 3) := by decide +kernel
theorem d_m_init_76 : decode M_m_init.2.1 76 = .ok (.return_, 1) := by decide +kernel
theorem d_m_card_0 : decode M_m_card.2.1 0 = .ok (.iload_n 1, 1) := by decide +kernel
theorem d_m_card_1 : decode M_m_card.2.1 1 = .ok (.iload_n 2, 1) := by decide +kernel
theorem d_m_card_2 : decode M_m_card.2.1 2 = .ok (.iload_n 3, 1) := by decide +kernel
theorem d_m_card_3 : decode M_m_card.2.1 3 = .ok (.invokestatic 118, 3) := by decide +kernel
theorem d_m_card_6 : decode M_m_card.2.1 6 = .ok (.istore 4, 2) := by decide +kernel
theorem d_m_card_8 : decode M_m_card.2.1 8 = .ok (.iload 4, 2) := by decide +kernel
theorem d_m_card_10 : decode M_m_card.2.1 10 = .ok (.ifCond .eq 19, 3) := by decide +kernel
theorem d_m_card_13 : decode M_m_card.2.1 13 = .ok (.aload_n 0, 1) := by decide +kernel
theorem d_m_card_14 : decode M_m_card.2.1 14 = .ok (.getfield 13, 3) := by decide +kernel
theorem d_m_card_17 : decode M_m_card.2.1 17 = .ok (.bipush 64, 2) := by decide +kernel
theorem d_m_card_19 : decode M_m_card.2.1 19 = .ok (.iaload, 1) := by decide +kernel
theorem d_m_card_20 : decode M_m_card.2.1 20 = .ok (.iload 4, 2) := by decide +kernel
theorem d_m_card_22 : decode M_m_card.2.1 22 = .ok (.iadd, 1) := by decide +kernel
theorem d_m_card_23 : decode M_m_card.2.1 23 = .ok (.sipush 240, 3) := by decide +kernel
theorem d_m_card_26 : decode M_m_card.2.1 26 = .ok (.if_icmp .le 5, 3) := by decide +kernel
theorem d_m_card_29 : decode M_m_card.2.1 29 = .ok (.iconst (-1), 1) := by decide +kernel
theorem d_m_card_30 : decode M_m_card.2.1 30 = .ok (.ireturn, 1) := by decide +kernel
theorem d_m_card_31 : decode M_m_card.2.1 31 = .ok (.aload_n 0, 1) := by decide +kernel
theorem d_m_card_32 : decode M_m_card.2.1 32 = .ok (.bipush 7, 2) := by decide +kernel
theorem d_m_card_34 : decode M_m_card.2.1 34 = .ok (.bipush 64, 2) := by decide +kernel
theorem d_m_card_36 : decode M_m_card.2.1 36 = .ok (.aload_n 0, 1) := by decide +kernel
theorem d_m_card_37 : decode M_m_card.2.1 37 = .ok (.getfield 13, 3) := by decide +kernel
theorem d_m_card_40 : decode M_m_card.2.1 40 = .ok (.bipush 64, 2) := by decide +kernel
theorem d_m_card_42 : decode M_m_card.2.1 42 = .ok (.iaload, 1) := by decide +kernel
theorem d_m_card_43 : decode M_m_card.2.1 43 = .ok (.invokevirtual 94, 3) := by decide +kernel
theorem d_m_card_46 : decode M_m_card.2.1 46 = .ok (.istore 5, 2) := by decide +kernel
theorem d_m_card_48 : decode M_m_card.2.1 48 = .ok (.aload_n 0, 1) := by decide +kernel
theorem d_m_card_49 : decode M_m_card.2.1 49 = .ok (.bipush 64, 2) := by decide +kernel
theorem d_m_card_51 : decode M_m_card.2.1 51 = .ok (.iload_n 1, 1) := by decide +kernel
theorem d_m_card_52 : decode M_m_card.2.1 52 = .ok (.invokestatic 121, 3) := by decide +kernel
theorem d_m_card_55 : decode M_m_card.2.1 55 = .ok (.invokevirtual 111, 3) := by decide +kernel
theorem d_m_card_58 : decode M_m_card.2.1 58 = .ok (.aload_n 0, 1) := by decide +kernel
theorem d_m_card_59 : decode M_m_card.2.1 59 = .ok (.bipush 64, 2) := by decide +kernel
theorem d_m_card_61 : decode M_m_card.2.1 61 = .ok (.bipush 32, 2) := by decide +kernel
theorem d_m_card_63 : decode M_m_card.2.1 63 = .ok (.invokevirtual 111, 3) := by decide +kernel
theorem d_m_card_66 : decode M_m_card.2.1 66 = .ok (.iload_n 1, 1) := by decide +kernel
theorem d_m_card_67 : decode M_m_card.2.1 67 = .ok (.ifCond .ne 55, 3) := by decide +kernel
theorem d_m_card_70 : decode M_m_card.2.1 70 = .ok (.sipush 1000, 3) := by decide +kernel
theorem d_m_card_73 : decode M_m_card.2.1 73 = .ok (.istore 6, 2) := by decide +kernel
theorem d_m_card_75 : decode M_m_card.2.1 75 = .ok (.iload 6, 2) := by decide +kernel
theorem d_m_card_77 : decode M_m_card.2.1 77 = .ok (.iconst 1, 1) := by decide +kernel
theorem d_m_card_78 : decode M_m_card.2.1 78 = .ok (.if_icmp .lt 41, 3) := by decide +kernel
theorem d_m_card_81 : decode M_m_card.2.1 81 = .ok (.iload_n 2, 1) := by decide +kernel
theorem d_m_card_82 : decode M_m_card.2.1 82 = .ok (.iload 6, 2) := by decide +kernel
theorem d_m_card_84 : decode M_m_card.2.1 84 = .ok (.if_icmp .ge 9, 3) := by decide +kernel
theorem d_m_card_87 : decode M_m_card.2.1 87 = .ok (.iload 6, 2) := by decide +kernel
theorem d_m_card_89 : decode M_m_card.2.1 89 = .ok (.iconst 1, 1) := by decide +kernel
theorem d_m_card_90 : decode M_m_card.2.1 90 = .ok (.if_icmp .ne 19, 3) := by decide +kernel
theorem d_m_card_93 : decode M_m_card.2.1 93 = .ok (.aload_n 0, 1) := by decide +kernel
theorem d_m_card_94 : decode M_m_card.2.1 94 = .ok (.bipush 64, 2) := by decide +kernel
theorem d_m_card_96 : decode M_m_card.2.1 96 = .ok (.bipush 48, 2) := by decide +kernel
theorem d_m_card_98 : decode M_m_card.2.1 98 = .ok (.iload_n 2, 1) := by decide +kernel
theorem d_m_card_99 : decode M_m_card.2.1 99 = .ok (.iload 6, 2) := by decide +kernel
theorem d_m_card_101 : decode M_m_card.2.1 101 = .ok (.idiv, 1) := by decide +kernel
theorem d_m_card_102 : decode M_m_card.2.1 102 = .ok (.bipush 10, 2) := by decide +kernel
theorem d_m_card_104 : decode M_m_card.2.1 104 = .ok (.irem, 1) := by decide +kernel
theorem d_m_card_105 : decode M_m_card.2.1 105 = .ok (.iadd, 1) := by decide +kernel
theorem d_m_card_106 : decode M_m_card.2.1 106 = .ok (.invokevirtual 111, 3) := by decide +kernel
theorem d_m_card_109 : decode M_m_card.2.1 109 = .ok (.iload 6, 2) := by decide +kernel
theorem d_m_card_111 : decode M_m_card.2.1 111 = .ok (.bipush 10, 2) := by decide +kernel
theorem d_m_card_113 : decode M_m_card.2.1 113 = .ok (.idiv, 1) := by decide +kernel
theorem d_m_card_114 : decode M_m_card.2.1 114 = .ok (.istore 6, 2) := by decide +kernel
theorem d_m_card_116 : decode M_m_card.2.1 116 = .ok (.goto (-41), 3) := by decide +kernel
theorem d_m_card_119 : decode M_m_card.2.1 119 = .ok (.goto 155, 3) := by decide +kernel
theorem d_m_card_122 : decode M_m_card.2.1 122 = .ok (.iload_n 1, 1) := by decide +kernel
theorem d_m_card_123 : decode M_m_card.2.1 123 = .ok (.iconst 1, 1) := by decide +kernel
theorem d_m_card_124 : decode M_m_card.2.1 124 = .ok (.if_icmp .ne 31, 3) := by decide +kernel
theorem d_m_card_127 : decode M_m_card.2.1 127 = .ok (.aload_n 0, 1) := by decide +kernel
theorem d_m_card_128 : decode M_m_card.2.1 128 = .ok (.bipush 64, 2) := by decide +kernel
theorem d_m_card_130 : decode M_m_card.2.1 130 = .ok (.bipush 48, 2) := by decide +kernel
theorem d_m_card_132 : decode M_m_card.2.1 132 = .ok (.iload_n 2, 1) := by decide +kernel
theorem d_m_card_133 : decode M_m_card.2.1 133 = .ok (.iadd, 1) := by decide +kernel
theorem d_m_card_134 : decode M_m_card.2.1 134 = .ok (.invokevirtual 111, 3) := by decide +kernel
theorem d_m_card_137 : decode M_m_card.2.1 137 = .ok (.aload_n 0, 1) := by decide +kernel
theorem d_m_card_138 : decode M_m_card.2.1 138 = .ok (.bipush 64, 2) := by decide +kernel
theorem d_m_card_140 : decode M_m_card.2.1 140 = .ok (.bipush 32, 2) := by decide +kernel
theorem d_m_card_142 : decode M_m_card.2.1 142 = .ok (.invokevirtual 111, 3) := by decide +kernel
theorem d_m_card_145 : decode M_m_card.2.1 145 = .ok (.aload_n 0, 1) := by decide +kernel
theorem d_m_card_146 : decode M_m_card.2.1 146 = .ok (.bipush 64, 2) := by decide +kernel
theorem d_m_card_148 : decode M_m_card.2.1 148 = .ok (.iload_n 3, 1) := by decide +kernel
theorem d_m_card_149 : decode M_m_card.2.1 149 = .ok (.invokevirtual 124, 3) := by decide +kernel
theorem d_m_card_152 : decode M_m_card.2.1 152 = .ok (.goto 122, 3) := by decide +kernel
theorem d_m_card_155 : decode M_m_card.2.1 155 = .ok (.iload_n 1, 1) := by decide +kernel
theorem d_m_card_156 : decode M_m_card.2.1 156 = .ok (.iconst 5, 1) := by decide +kernel
theorem d_m_card_157 : decode M_m_card.2.1 157 = .ok (.if_icmp .ne 74, 3) := by decide +kernel
theorem d_m_card_160 : decode M_m_card.2.1 160 = .ok (.aload_n 0, 1) := by decide +kernel
theorem d_m_card_161 : decode M_m_card.2.1 161 = .ok (.bipush 64, 2) := by decide +kernel
theorem d_m_card_163 : decode M_m_card.2.1 163 = .ok (.iload_n 2, 1) := by decide +kernel
theorem d_m_card_164 : decode M_m_card.2.1 164 = .ok (.ifCond .lt 8, 3) := by decide +kernel
theorem d_m_card_167 : decode M_m_card.2.1 167 = .ok (.bipush 43, 2) := by decide +kernel
theorem d_m_card_169 : decode M_m_card.2.1 169 = .ok (.goto 5, 3) := by decide +kernel
theorem d_m_card_172 : decode M_m_card.2.1 172 = .ok (.bipush 45, 2) := by decide +kernel
theorem d_m_card_174 : decode M_m_card.2.1 174 = .ok (.invokevirtual 111, 3) := by decide +kernel
theorem d_m_card_177 : decode M_m_card.2.1 177 = .ok (.aload_n 0, 1) := by decide +kernel
theorem d_m_card_178 : decode M_m_card.2.1 178 = .ok (.bipush 64, 2) := by decide +kernel
theorem d_m_card_180 : decode M_m_card.2.1 180 = .ok (.bipush 48, 2) := by decide +kernel
theorem d_m_card_182 : decode M_m_card.2.1 182 = .ok (.iload_n 2, 1) := by decide +kernel
theorem d_m_card_183 : decode M_m_card.2.1 183 = .ok (.ifCond .lt 7, 3) := by decide +kernel
theorem d_m_card_186 : decode M_m_card.2.1 186 = .ok (.iload_n 2, 1) := by decide +kernel
theorem d_m_card_187 : decode M_m_card.2.1 187 = .ok (.goto 6, 3) := by decide +kernel
theorem d_m_card_190 : decode M_m_card.2.1 190 = .ok (.iconst (-1), 1) := by decide +kernel
theorem d_m_card_191 : decode M_m_card.2.1 191 = .ok (.iload_n 2, 1) := by decide +kernel
theorem d_m_card_192 : decode M_m_card.2.1 192 = .ok (.isub, 1) := by decide +kernel
theorem d_m_card_193 : decode M_m_card.2.1 193 = .ok (.iadd, 1) := by decide +kernel
theorem d_m_card_194 : decode M_m_card.2.1 194 = .ok (.invokevirtual 111, 3) := by decide +kernel
theorem d_m_card_197 : decode M_m_card.2.1 197 = .ok (.aload_n 0, 1) := by decide +kernel
theorem d_m_card_198 : decode M_m_card.2.1 198 = .ok (.bipush 64, 2) := by decide +kernel
theorem d_m_card_200 : decode M_m_card.2.1 200 = .ok (.bipush 32, 2) := by decide +kernel
theorem d_m_card_202 : decode M_m_card.2.1 202 = .ok (.invokevirtual 111, 3) := by decide +kernel
theorem d_m_card_205 : decode M_m_card.2.1 205 = .ok (.iload_n 3, 1) := by decide +kernel
theorem d_m_card_206 : decode M_m_card.2.1 206 = .ok (.iconst (-1), 1) := by decide +kernel
theorem d_m_card_207 : decode M_m_card.2.1 207 = .ok (.if_icmp .ne 14, 3) := by decide +kernel
theorem d_m_card_210 : decode M_m_card.2.1 210 = .ok (.aload_n 0, 1) := by decide +kernel
theorem d_m_card_211 : decode M_m_card.2.1 211 = .ok (.bipush 64, 2) := by decide +kernel
theorem d_m_card_213 : decode M_m_card.2.1 213 = .ok (.bipush 42, 2) := by decide +kernel
theorem d_m_card_215 : decode M_m_card.2.1 215 = .ok (.invokevirtual 111, 3) := by decide +kernel
theorem d_m_card_218 : decode M_m_card.2.1 218 = .ok (.goto 56, 3) := by decide +kernel
theorem d_m_card_221 : decode M_m_card.2.1 221 = .ok (.aload_n 0, 1) := by decide +kernel
theorem d_m_card_222 : decode M_m_card.2.1 222 = .ok (.bipush 64, 2) := by decide +kernel
theorem d_m_card_224 : decode M_m_card.2.1 224 = .ok (.iload_n 3, 1) := by decide +kernel
theorem d_m_card_225 : decode M_m_card.2.1 225 = .ok (.invokevirtual 124, 3) := by decide +kernel
theorem d_m_card_228 : decode M_m_card.2.1 228 = .ok (.goto 46, 3) := by decide +kernel
theorem d_m_card_231 : decode M_m_card.2.1 231 = .ok (.aload_n 0, 1) := by decide +kernel
theorem d_m_card_232 : decode M_m_card.2.1 232 = .ok (.bipush 64, 2) := by decide +kernel
theorem d_m_card_234 : decode M_m_card.2.1 234 = .ok (.iload_n 1, 1) := by decide +kernel
theorem d_m_card_235 : decode M_m_card.2.1 235 = .ok (.bipush 6, 2) := by decide +kernel
theorem d_m_card_237 : decode M_m_card.2.1 237 = .ok (.if_icmp .ne 8, 3) := by decide +kernel
theorem d_m_card_240 : decode M_m_card.2.1 240 = .ok (.iload 5, 2) := by decide +kernel
theorem d_m_card_242 : decode M_m_card.2.1 242 = .ok (.goto 4, 3) := by decide +kernel
theorem d_m_card_245 : decode M_m_card.2.1 245 = .ok (.iload_n 2, 1) := by decide +kernel
theorem d_m_card_246 : decode M_m_card.2.1 246 = .ok (.invokevirtual 124, 3) := by decide +kernel
theorem d_m_card_249 : decode M_m_card.2.1 249 = .ok (.iload_n 1, 1) := by decide +kernel
theorem d_m_card_250 : decode M_m_card.2.1 250 = .ok (.iconst 3, 1) := by decide +kernel
theorem d_m_card_251 : decode M_m_card.2.1 251 = .ok (.if_icmp .ne 23, 3) := by decide +kernel
theorem d_m_card_254 : decode M_m_card.2.1 254 = .ok (.iload_n 3, 1) := by decide +kernel
theorem d_m_card_255 : decode M_m_card.2.1 255 = .ok (.iconst (-1), 1) := by decide +kernel
theorem d_m_card_256 : decode M_m_card.2.1 256 = .ok (.if_icmp .eq 18, 3) := by decide +kernel
theorem d_m_card_259 : decode M_m_card.2.1 259 = .ok (.aload_n 0, 1) := by decide +kernel
theorem d_m_card_260 : decode M_m_card.2.1 260 = .ok (.bipush 64, 2) := by decide +kernel
theorem d_m_card_262 : decode M_m_card.2.1 262 = .ok (.bipush 32, 2) := by decide +kernel
theorem d_m_card_264 : decode M_m_card.2.1 264 = .ok (.invokevirtual 111, 3) := by decide +kernel
theorem d_m_card_267 : decode M_m_card.2.1 267 = .ok (.aload_n 0, 1) := by decide +kernel
theorem d_m_card_268 : decode M_m_card.2.1 268 = .ok (.bipush 64, 2) := by decide +kernel
theorem d_m_card_270 : decode M_m_card.2.1 270 = .ok (.iload_n 3, 1) := by decide +kernel
theorem d_m_card_271 : decode M_m_card.2.1 271 = .ok (.invokevirtual 124, 3) := by decide +kernel
theorem d_m_card_274 : decode M_m_card.2.1 274 = .ok (.aload_n 0, 1) := by decide +kernel
theorem d_m_card_275 : decode M_m_card.2.1 275 = .ok (.bipush 64, 2) := by decide +kernel
theorem d_m_card_277 : decode M_m_card.2.1 277 = .ok (.bipush 10, 2) := by decide +kernel
theorem d_m_card_279 : decode M_m_card.2.1 279 = .ok (.invokevirtual 111, 3) := by decide +kernel
theorem d_m_card_282 : decode M_m_card.2.1 282 = .ok (.aload_n 0, 1) := by decide +kernel
theorem d_m_card_283 : decode M_m_card.2.1 283 = .ok (.getfield 13, 3) := by decide +kernel
theorem d_m_card_286 : decode M_m_card.2.1 286 = .ok (.bipush 64, 2) := by decide +kernel
theorem d_m_card_288 : decode M_m_card.2.1 288 = .ok (.iaload, 1) := by decide +kernel
theorem d_m_card_289 : decode M_m_card.2.1 289 = .ok (.ireturn, 1) := by decide +kernel
theorem d_m_size_0 : decode M_m_size.2.1 0 = .ok (.iload_n 0, 1) := by decide +kernel
theorem d_m_size_1 : decode M_m_size.2.1 1 = .ok (.ifCond .ne 53, 3) := by decide +kernel
theorem d_m_size_4 : decode M_m_size.2.1 4 = .ok (.iload_n 1, 1) := by decide +kernel
theorem d_m_size_5 : decode M_m_size.2.1 5 = .ok (.ifCond .lt 10, 3) := by decide +kernel
theorem d_m_size_8 : decode M_m_size.2.1 8 = .ok (.iload_n 1, 1) := by decide +kernel
theorem d_m_size_9 : decode M_m_size.2.1 9 = .ok (.sipush 9999, 3) := by decide +kernel
theorem d_m_size_12 : decode M_m_size.2.1 12 = .ok (.if_icmp .le 7, 3) := by decide +kernel
theorem d_m_size_15 : decode M_m_size.2.1 15 = .ok (.iconst 0, 1) := by decide +kernel
theorem d_m_size_16 : decode M_m_size.2.1 16 = .ok (.goto 37, 3) := by decide +kernel
theorem d_m_size_19 : decode M_m_size.2.1 19 = .ok (.iload_n 1, 1) := by decide +kernel
theorem d_m_size_20 : decode M_m_size.2.1 20 = .ok (.bipush 10, 2) := by decide +kernel
theorem d_m_size_22 : decode M_m_size.2.1 22 = .ok (.if_icmp .ge 7, 3) := by decide +kernel
theorem d_m_size_25 : decode M_m_size.2.1 25 = .ok (.iconst 4, 1) := by decide +kernel
theorem d_m_size_26 : decode M_m_size.2.1 26 = .ok (.goto 27, 3) := by decide +kernel
theorem d_m_size_29 : decode M_m_size.2.1 29 = .ok (.iload_n 1, 1) := by decide +kernel
theorem d_m_size_30 : decode M_m_size.2.1 30 = .ok (.bipush 100, 2) := by decide +kernel
theorem d_m_size_32 : decode M_m_size.2.1 32 = .ok (.if_icmp .ge 7, 3) := by decide +kernel
theorem d_m_size_35 : decode M_m_size.2.1 35 = .ok (.iconst 5, 1) := by decide +kernel
theorem d_m_size_36 : decode M_m_size.2.1 36 = .ok (.goto 17, 3) := by decide +kernel
theorem d_m_size_39 : decode M_m_size.2.1 39 = .ok (.iload_n 1, 1) := by decide +kernel
theorem d_m_size_40 : decode M_m_size.2.1 40 = .ok (.sipush 1000, 3) := by decide +kernel
theorem d_m_size_43 : decode M_m_size.2.1 43 = .ok (.if_icmp .ge 8, 3) := by decide +kernel
theorem d_m_size_46 : decode M_m_size.2.1 46 = .ok (.bipush 6, 2) := by decide +kernel
theorem d_m_size_48 : decode M_m_size.2.1 48 = .ok (.goto 5, 3) := by decide +kernel
theorem d_m_size_51 : decode M_m_size.2.1 51 = .ok (.bipush 7, 2) := by decide +kernel
theorem d_m_size_53 : decode M_m_size.2.1 53 = .ok (.ireturn, 1) := by decide +kernel
theorem d_m_size_54 : decode M_m_size.2.1 54 = .ok (.iload_n 0, 1) := by decide +kernel
theorem d_m_size_55 : decode M_m_size.2.1 55 = .ok (.iconst 1, 1) := by decide +kernel
theorem d_m_size_56 : decode M_m_size.2.1 56 = .ok (.if_icmp .ne 27, 3) := by decide +kernel
theorem d_m_size_59 : decode M_m_size.2.1 59 = .ok (.iload_n 1, 1) := by decide +kernel
theorem d_m_size_60 : decode M_m_size.2.1 60 = .ok (.ifCond .lt 21, 3) := by decide +kernel
theorem d_m_size_63 : decode M_m_size.2.1 63 = .ok (.iload_n 1, 1) := by decide +kernel
theorem d_m_size_64 : decode M_m_size.2.1 64 = .ok (.bipush 9, 2) := by decide +kernel
theorem d_m_size_66 : decode M_m_size.2.1 66 = .ok (.if_icmp .gt 15, 3) := by decide +kernel
theorem d_m_size_69 : decode M_m_size.2.1 69 = .ok (.iload_n 2, 1) := by decide +kernel
theorem d_m_size_70 : decode M_m_size.2.1 70 = .ok (.invokestatic 115, 3) := by decide +kernel
theorem d_m_size_73 : decode M_m_size.2.1 73 = .ok (.ifCond .eq 8, 3) := by decide +kernel
theorem d_m_size_76 : decode M_m_size.2.1 76 = .ok (.bipush 11, 2) := by decide +kernel
theorem d_m_size_78 : decode M_m_size.2.1 78 = .ok (.goto 4, 3) := by decide +kernel
theorem d_m_size_81 : decode M_m_size.2.1 81 = .ok (.iconst 0, 1) := by decide +kernel
theorem d_m_size_82 : decode M_m_size.2.1 82 = .ok (.ireturn, 1) := by decide +kernel
theorem d_m_size_83 : decode M_m_size.2.1 83 = .ok (.iload_n 0, 1) := by decide +kernel
theorem d_m_size_84 : decode M_m_size.2.1 84 = .ok (.iconst 2, 1) := by decide +kernel
theorem d_m_size_85 : decode M_m_size.2.1 85 = .ok (.if_icmp .eq 8, 3) := by decide +kernel
theorem d_m_size_88 : decode M_m_size.2.1 88 = .ok (.iload_n 0, 1) := by decide +kernel
theorem d_m_size_89 : decode M_m_size.2.1 89 = .ok (.iconst 4, 1) := by decide +kernel
theorem d_m_size_90 : decode M_m_size.2.1 90 = .ok (.if_icmp .ne 17, 3) := by decide +kernel
theorem d_m_size_93 : decode M_m_size.2.1 93 = .ok (.iload_n 1, 1) := by decide +kernel
theorem d_m_size_94 : decode M_m_size.2.1 94 = .ok (.invokestatic 115, 3) := by decide +kernel
theorem d_m_size_97 : decode M_m_size.2.1 97 = .ok (.ifCond .eq 8, 3) := by decide +kernel
theorem d_m_size_100 : decode M_m_size.2.1 100 = .ok (.bipush 9, 2) := by decide +kernel
theorem d_m_size_102 : decode M_m_size.2.1 102 = .ok (.goto 4, 3) := by decide +kernel
theorem d_m_size_105 : decode M_m_size.2.1 105 = .ok (.iconst 0, 1) := by decide +kernel
theorem d_m_size_106 : decode M_m_size.2.1 106 = .ok (.ireturn, 1) := by decide +kernel
theorem d_m_size_107 : decode M_m_size.2.1 107 = .ok (.iload_n 0, 1) := by decide +kernel
theorem d_m_size_108 : decode M_m_size.2.1 108 = .ok (.iconst 3, 1) := by decide +kernel
theorem d_m_size_109 : decode M_m_size.2.1 109 = .ok (.if_icmp .ne 43, 3) := by decide +kernel
theorem d_m_size_112 : decode M_m_size.2.1 112 = .ok (.iload_n 1, 1) := by decide +kernel
theorem d_m_size_113 : decode M_m_size.2.1 113 = .ok (.invokestatic 115, 3) := by decide +kernel
theorem d_m_size_116 : decode M_m_size.2.1 116 = .ok (.ifCond .ne 7, 3) := by decide +kernel
theorem d_m_size_119 : decode M_m_size.2.1 119 = .ok (.iconst 0, 1) := by decide +kernel
theorem d_m_size_120 : decode M_m_size.2.1 120 = .ok (.goto 31, 3) := by decide +kernel
theorem d_m_size_123 : decode M_m_size.2.1 123 = .ok (.iload_n 2, 1) := by decide +kernel
theorem d_m_size_124 : decode M_m_size.2.1 124 = .ok (.iconst (-1), 1) := by decide +kernel
theorem d_m_size_125 : decode M_m_size.2.1 125 = .ok (.if_icmp .ne 8, 3) := by decide +kernel
theorem d_m_size_128 : decode M_m_size.2.1 128 = .ok (.bipush 9, 2) := by decide +kernel
theorem d_m_size_130 : decode M_m_size.2.1 130 = .ok (.goto 21, 3) := by decide +kernel
theorem d_m_size_133 : decode M_m_size.2.1 133 = .ok (.iload_n 2, 1) := by decide +kernel
theorem d_m_size_134 : decode M_m_size.2.1 134 = .ok (.invokestatic 115, 3) := by decide +kernel
theorem d_m_size_137 : decode M_m_size.2.1 137 = .ok (.ifCond .eq 13, 3) := by decide +kernel
theorem d_m_size_140 : decode M_m_size.2.1 140 = .ok (.iload_n 1, 1) := by decide +kernel
theorem d_m_size_141 : decode M_m_size.2.1 141 = .ok (.iload_n 2, 1) := by decide +kernel
theorem d_m_size_142 : decode M_m_size.2.1 142 = .ok (.if_icmp .eq 8, 3) := by decide +kernel
theorem d_m_size_145 : decode M_m_size.2.1 145 = .ok (.bipush 16, 2) := by decide +kernel
theorem d_m_size_147 : decode M_m_size.2.1 147 = .ok (.goto 4, 3) := by decide +kernel
theorem d_m_size_150 : decode M_m_size.2.1 150 = .ok (.iconst 0, 1) := by decide +kernel
theorem d_m_size_151 : decode M_m_size.2.1 151 = .ok (.ireturn, 1) := by decide +kernel
theorem d_m_size_152 : decode M_m_size.2.1 152 = .ok (.iload_n 0, 1) := by decide +kernel
theorem d_m_size_153 : decode M_m_size.2.1 153 = .ok (.iconst 5, 1) := by decide +kernel
theorem d_m_size_154 : decode M_m_size.2.1 154 = .ok (.if_icmp .ne 43, 3) := by decide +kernel
theorem d_m_size_157 : decode M_m_size.2.1 157 = .ok (.iload_n 1, 1) := by decide +kernel
theorem d_m_size_158 : decode M_m_size.2.1 158 = .ok (.bipush (-10), 2) := by decide +kernel
theorem d_m_size_160 : decode M_m_size.2.1 160 = .ok (.if_icmp .lt 9, 3) := by decide +kernel
theorem d_m_size_163 : decode M_m_size.2.1 163 = .ok (.iload_n 1, 1) := by decide +kernel
theorem d_m_size_164 : decode M_m_size.2.1 164 = .ok (.bipush 9, 2) := by decide +kernel
theorem d_m_size_166 : decode M_m_size.2.1 166 = .ok (.if_icmp .le 7, 3) := by decide +kernel
theorem d_m_size_169 : decode M_m_size.2.1 169 = .ok (.iconst 0, 1) := by decide +kernel
theorem d_m_size_170 : decode M_m_size.2.1 170 = .ok (.goto 26, 3) := by decide +kernel
theorem d_m_size_173 : decode M_m_size.2.1 173 = .ok (.iload_n 2, 1) := by decide +kernel
theorem d_m_size_174 : decode M_m_size.2.1 174 = .ok (.iconst (-1), 1) := by decide +kernel
theorem d_m_size_175 : decode M_m_size.2.1 175 = .ok (.if_icmp .ne 8, 3) := by decide +kernel
theorem d_m_size_178 : decode M_m_size.2.1 178 = .ok (.bipush 7, 2) := by decide +kernel
theorem d_m_size_180 : decode M_m_size.2.1 180 = .ok (.goto 16, 3) := by decide +kernel
theorem d_m_size_183 : decode M_m_size.2.1 183 = .ok (.iload_n 2, 1) := by decide +kernel
theorem d_m_size_184 : decode M_m_size.2.1 184 = .ok (.invokestatic 115, 3) := by decide +kernel
theorem d_m_size_187 : decode M_m_size.2.1 187 = .ok (.ifCond .eq 8, 3) := by decide +kernel
theorem d_m_size_190 : decode M_m_size.2.1 190 = .ok (.bipush 12, 2) := by decide +kernel
theorem d_m_size_192 : decode M_m_size.2.1 192 = .ok (.goto 4, 3) := by decide +kernel
theorem d_m_size_195 : decode M_m_size.2.1 195 = .ok (.iconst 0, 1) := by decide +kernel
theorem d_m_size_196 : decode M_m_size.2.1 196 = .ok (.ireturn, 1) := by decide +kernel
theorem d_m_size_197 : decode M_m_size.2.1 197 = .ok (.iload_n 0, 1) := by decide +kernel
theorem d_m_size_198 : decode M_m_size.2.1 198 = .ok (.bipush 6, 2) := by decide +kernel
theorem d_m_size_200 : decode M_m_size.2.1 200 = .ok (.if_icmp .ne 8, 3) := by decide +kernel
theorem d_m_size_203 : decode M_m_size.2.1 203 = .ok (.bipush 9, 2) := by decide +kernel
theorem d_m_size_205 : decode M_m_size.2.1 205 = .ok (.goto 4, 3) := by decide +kernel
theorem d_m_size_208 : decode M_m_size.2.1 208 = .ok (.iconst 0, 1) := by decide +kernel
theorem d_m_size_209 : decode M_m_size.2.1 209 = .ok (.ireturn, 1) := by decide +kernel
theorem d_m_isName_0 : decode M_m_isName.2.1 0 = .ok (.iload_n 0, 1) := by decide +kernel
theorem d_m_isName_1 : decode M_m_isName.2.1 1 = .ok (.ifCond .lt 13, 3) := by decide +kernel
theorem d_m_isName_4 : decode M_m_isName.2.1 4 = .ok (.iload_n 0, 1) := by decide +kernel
theorem d_m_isName_5 : decode M_m_isName.2.1 5 = .ok (.ldc 46, 2) := by decide +kernel
theorem d_m_isName_7 : decode M_m_isName.2.1 7 = .ok (.if_icmp .gt 7, 3) := by decide +kernel
theorem d_m_isName_10 : decode M_m_isName.2.1 10 = .ok (.iconst 1, 1) := by decide +kernel
theorem d_m_isName_11 : decode M_m_isName.2.1 11 = .ok (.goto 4, 3) := by decide +kernel
theorem d_m_isName_14 : decode M_m_isName.2.1 14 = .ok (.iconst 0, 1) := by decide +kernel
theorem d_m_isName_15 : decode M_m_isName.2.1 15 = .ok (.ireturn, 1) := by decide +kernel
theorem d_m_digest_0 : decode M_m_digest.2.1 0 = .ok (.iload_n 1, 1) := by decide +kernel
theorem d_m_digest_1 : decode M_m_digest.2.1 1 = .ok (.i2l, 1) := by decide +kernel
theorem d_m_digest_2 : decode M_m_digest.2.1 2 = .ok (.lstore 4, 2) := by decide +kernel
theorem d_m_digest_4 : decode M_m_digest.2.1 4 = .ok (.iconst 0, 1) := by decide +kernel
theorem d_m_digest_5 : decode M_m_digest.2.1 5 = .ok (.istore 6, 2) := by decide +kernel
theorem d_m_digest_7 : decode M_m_digest.2.1 7 = .ok (.iload 6, 2) := by decide +kernel
theorem d_m_digest_9 : decode M_m_digest.2.1 9 = .ok (.iload_n 3, 1) := by decide +kernel
theorem d_m_digest_10 : decode M_m_digest.2.1 10 = .ok (.if_icmp .ge 32, 3) := by decide +kernel
theorem d_m_digest_13 : decode M_m_digest.2.1 13 = .ok (.ldc2_w 38, 3) := by decide +kernel
theorem d_m_digest_16 : decode M_m_digest.2.1 16 = .ok (.lload 4, 2) := by decide +kernel
theorem d_m_digest_18 : decode M_m_digest.2.1 18 = .ok (.lmul, 1) := by decide +kernel
theorem d_m_digest_19 : decode M_m_digest.2.1 19 = .ok (.aload_n 0, 1) := by decide +kernel
theorem d_m_digest_20 : decode M_m_digest.2.1 20 = .ok (.iload_n 2, 1) := by decide +kernel
theorem d_m_digest_21 : decode M_m_digest.2.1 21 = .ok (.iload 6, 2) := by decide +kernel
theorem d_m_digest_23 : decode M_m_digest.2.1 23 = .ok (.invokevirtual 40, 3) := by decide +kernel
theorem d_m_digest_26 : decode M_m_digest.2.1 26 = .ok (.i2l, 1) := by decide +kernel
theorem d_m_digest_27 : decode M_m_digest.2.1 27 = .ok (.ladd, 1) := by decide +kernel
theorem d_m_digest_28 : decode M_m_digest.2.1 28 = .ok (.lconst 1, 1) := by decide +kernel
theorem d_m_digest_29 : decode M_m_digest.2.1 29 = .ok (.ladd, 1) := by decide +kernel
theorem d_m_digest_30 : decode M_m_digest.2.1 30 = .ok (.ldc2_w 44, 3) := by decide +kernel
theorem d_m_digest_33 : decode M_m_digest.2.1 33 = .ok (.lrem, 1) := by decide +kernel
theorem d_m_digest_34 : decode M_m_digest.2.1 34 = .ok (.lstore 4, 2) := by decide +kernel
theorem d_m_digest_36 : decode M_m_digest.2.1 36 = .ok (.iinc 6 1, 3) := by decide +kernel
theorem d_m_digest_39 : decode M_m_digest.2.1 39 = .ok (.goto (-32), 3) := by decide +kernel
theorem d_m_digest_42 : decode M_m_digest.2.1 42 = .ok (.lload 4, 2) := by decide +kernel
theorem d_m_digest_44 : decode M_m_digest.2.1 44 = .ok (.l2i, 1) := by decide +kernel
theorem d_m_digest_45 : decode M_m_digest.2.1 45 = .ok (.ireturn, 1) := by decide +kernel
theorem d_m_at_0 : decode M_m_at.2.1 0 = .ok (.aload_n 0, 1) := by decide +kernel
theorem d_m_at_1 : decode M_m_at.2.1 1 = .ok (.getfield 7, 3) := by decide +kernel
theorem d_m_at_4 : decode M_m_at.2.1 4 = .ok (.sipush 240, 3) := by decide +kernel
theorem d_m_at_7 : decode M_m_at.2.1 7 = .ok (.iload_n 1, 1) := by decide +kernel
theorem d_m_at_8 : decode M_m_at.2.1 8 = .ok (.imul, 1) := by decide +kernel
theorem d_m_at_9 : decode M_m_at.2.1 9 = .ok (.iload_n 2, 1) := by decide +kernel
theorem d_m_at_10 : decode M_m_at.2.1 10 = .ok (.iadd, 1) := by decide +kernel
theorem d_m_at_11 : decode M_m_at.2.1 11 = .ok (.baload, 1) := by decide +kernel
theorem d_m_at_12 : decode M_m_at.2.1 12 = .ok (.sipush 255, 3) := by decide +kernel
theorem d_m_at_15 : decode M_m_at.2.1 15 = .ok (.iand, 1) := by decide +kernel
theorem d_m_at_16 : decode M_m_at.2.1 16 = .ok (.ireturn, 1) := by decide +kernel
theorem d_m_letterOf_0 : decode M_m_letterOf.2.1 0 = .ok (.iload_n 0, 1) := by decide +kernel
theorem d_m_letterOf_1 : decode M_m_letterOf.2.1 1 = .ok (.ifCond .ne 8, 3) := by decide +kernel
theorem d_m_letterOf_4 : decode M_m_letterOf.2.1 4 = .ok (.bipush 68, 2) := by decide +kernel
theorem d_m_letterOf_6 : decode M_m_letterOf.2.1 6 = .ok (.goto 55, 3) := by decide +kernel
theorem d_m_letterOf_9 : decode M_m_letterOf.2.1 9 = .ok (.iload_n 0, 1) := by decide +kernel
theorem d_m_letterOf_10 : decode M_m_letterOf.2.1 10 = .ok (.iconst 1, 1) := by decide +kernel
theorem d_m_letterOf_11 : decode M_m_letterOf.2.1 11 = .ok (.if_icmp .ne 8, 3) := by decide +kernel
theorem d_m_letterOf_14 : decode M_m_letterOf.2.1 14 = .ok (.bipush 70, 2) := by decide +kernel
theorem d_m_letterOf_16 : decode M_m_letterOf.2.1 16 = .ok (.goto 45, 3) := by decide +kernel
theorem d_m_letterOf_19 : decode M_m_letterOf.2.1 19 = .ok (.iload_n 0, 1) := by decide +kernel
theorem d_m_letterOf_20 : decode M_m_letterOf.2.1 20 = .ok (.iconst 2, 1) := by decide +kernel
theorem d_m_letterOf_21 : decode M_m_letterOf.2.1 21 = .ok (.if_icmp .ne 8, 3) := by decide +kernel
theorem d_m_letterOf_24 : decode M_m_letterOf.2.1 24 = .ok (.bipush 77, 2) := by decide +kernel
theorem d_m_letterOf_26 : decode M_m_letterOf.2.1 26 = .ok (.goto 35, 3) := by decide +kernel
theorem d_m_letterOf_29 : decode M_m_letterOf.2.1 29 = .ok (.iload_n 0, 1) := by decide +kernel
theorem d_m_letterOf_30 : decode M_m_letterOf.2.1 30 = .ok (.iconst 3, 1) := by decide +kernel
theorem d_m_letterOf_31 : decode M_m_letterOf.2.1 31 = .ok (.if_icmp .ne 8, 3) := by decide +kernel
theorem d_m_letterOf_34 : decode M_m_letterOf.2.1 34 = .ok (.bipush 80, 2) := by decide +kernel
theorem d_m_letterOf_36 : decode M_m_letterOf.2.1 36 = .ok (.goto 25, 3) := by decide +kernel
theorem d_m_letterOf_39 : decode M_m_letterOf.2.1 39 = .ok (.iload_n 0, 1) := by decide +kernel
theorem d_m_letterOf_40 : decode M_m_letterOf.2.1 40 = .ok (.iconst 4, 1) := by decide +kernel
theorem d_m_letterOf_41 : decode M_m_letterOf.2.1 41 = .ok (.if_icmp .ne 8, 3) := by decide +kernel
theorem d_m_letterOf_44 : decode M_m_letterOf.2.1 44 = .ok (.bipush 82, 2) := by decide +kernel
theorem d_m_letterOf_46 : decode M_m_letterOf.2.1 46 = .ok (.goto 15, 3) := by decide +kernel
theorem d_m_letterOf_49 : decode M_m_letterOf.2.1 49 = .ok (.iload_n 0, 1) := by decide +kernel
theorem d_m_letterOf_50 : decode M_m_letterOf.2.1 50 = .ok (.iconst 5, 1) := by decide +kernel
theorem d_m_letterOf_51 : decode M_m_letterOf.2.1 51 = .ok (.if_icmp .ne 8, 3) := by decide +kernel
theorem d_m_letterOf_54 : decode M_m_letterOf.2.1 54 = .ok (.bipush 84, 2) := by decide +kernel
theorem d_m_letterOf_56 : decode M_m_letterOf.2.1 56 = .ok (.goto 5, 3) := by decide +kernel
theorem d_m_letterOf_59 : decode M_m_letterOf.2.1 59 = .ok (.bipush 90, 2) := by decide +kernel
theorem d_m_letterOf_61 : decode M_m_letterOf.2.1 61 = .ok (.ireturn, 1) := by decide +kernel
theorem d_m_write_0 : decode M_m_write.2.1 0 = .ok (.aload_n 0, 1) := by decide +kernel
theorem d_m_write_1 : decode M_m_write.2.1 1 = .ok (.getfield 7, 3) := by decide +kernel
theorem d_m_write_4 : decode M_m_write.2.1 4 = .ok (.sipush 240, 3) := by decide +kernel
theorem d_m_write_7 : decode M_m_write.2.1 7 = .ok (.iload_n 1, 1) := by decide +kernel
theorem d_m_write_8 : decode M_m_write.2.1 8 = .ok (.imul, 1) := by decide +kernel
theorem d_m_write_9 : decode M_m_write.2.1 9 = .ok (.aload_n 0, 1) := by decide +kernel
theorem d_m_write_10 : decode M_m_write.2.1 10 = .ok (.getfield 13, 3) := by decide +kernel
theorem d_m_write_13 : decode M_m_write.2.1 13 = .ok (.iload_n 1, 1) := by decide +kernel
theorem d_m_write_14 : decode M_m_write.2.1 14 = .ok (.iaload, 1) := by decide +kernel
theorem d_m_write_15 : decode M_m_write.2.1 15 = .ok (.iadd, 1) := by decide +kernel
theorem d_m_write_16 : decode M_m_write.2.1 16 = .ok (.iload_n 2, 1) := by decide +kernel
theorem d_m_write_17 : decode M_m_write.2.1 17 = .ok (.i2b, 1) := by decide +kernel
theorem d_m_write_18 : decode M_m_write.2.1 18 = .ok (.bastore, 1) := by decide +kernel
theorem d_m_write_19 : decode M_m_write.2.1 19 = .ok (.aload_n 0, 1) := by decide +kernel
theorem d_m_write_20 : decode M_m_write.2.1 20 = .ok (.getfield 13, 3) := by decide +kernel
theorem d_m_write_23 : decode M_m_write.2.1 23 = .ok (.iload_n 1, 1) := by decide +kernel
theorem d_m_write_24 : decode M_m_write.2.1 24 = .ok (.dup2, 1) := by decide +kernel
theorem d_m_write_25 : decode M_m_write.2.1 25 = .ok (.iaload, 1) := by decide +kernel
theorem d_m_write_26 : decode M_m_write.2.1 26 = .ok (.iconst 1, 1) := by decide +kernel
theorem d_m_write_27 : decode M_m_write.2.1 27 = .ok (.iadd, 1) := by decide +kernel
theorem d_m_write_28 : decode M_m_write.2.1 28 = .ok (.iastore, 1) := by decide +kernel
theorem d_m_write_29 : decode M_m_write.2.1 29 = .ok (.return_, 1) := by decide +kernel
theorem d_m_writeName_0 : decode M_m_writeName.2.1 0 = .ok (.bipush 20, 2) := by decide +kernel
theorem d_m_writeName_2 : decode M_m_writeName.2.1 2 = .ok (.istore_n 3, 1) := by decide +kernel
theorem d_m_writeName_3 : decode M_m_writeName.2.1 3 = .ok (.iload_n 3, 1) := by decide +kernel
theorem d_m_writeName_4 : decode M_m_writeName.2.1 4 = .ok (.ifCond .lt 23, 3) := by decide +kernel
theorem d_m_writeName_7 : decode M_m_writeName.2.1 7 = .ok (.aload_n 0, 1) := by decide +kernel
theorem d_m_writeName_8 : decode M_m_writeName.2.1 8 = .ok (.iload_n 1, 1) := by decide +kernel
theorem d_m_writeName_9 : decode M_m_writeName.2.1 9 = .ok (.bipush 97, 2) := by decide +kernel
theorem d_m_writeName_11 : decode M_m_writeName.2.1 11 = .ok (.iload_n 2, 1) := by decide +kernel
theorem d_m_writeName_12 : decode M_m_writeName.2.1 12 = .ok (.iload_n 3, 1) := by decide +kernel
theorem d_m_writeName_13 : decode M_m_writeName.2.1 13 = .ok (.ishr, 1) := by decide +kernel
theorem d_m_writeName_14 : decode M_m_writeName.2.1 14 = .ok (.bipush 15, 2) := by decide +kernel
theorem d_m_writeName_16 : decode M_m_writeName.2.1 16 = .ok (.iand, 1) := by decide +kernel
theorem d_m_writeName_17 : decode M_m_writeName.2.1 17 = .ok (.iadd, 1) := by decide +kernel
theorem d_m_writeName_18 : decode M_m_writeName.2.1 18 = .ok (.invokevirtual 111, 3) := by decide +kernel
theorem d_m_writeName_21 : decode M_m_writeName.2.1 21 = .ok (.iinc 3 (-4), 3) := by decide +kernel
theorem d_m_writeName_24 : decode M_m_writeName.2.1 24 = .ok (.goto (-21), 3) := by decide +kernel
theorem d_m_writeName_27 : decode M_m_writeName.2.1 27 = .ok (.return_, 1) := by decide +kernel
theorem d_m_raw_0 : decode M_m_raw.2.1 0 = .ok (.iload_n 3, 1) := by decide +kernel
theorem d_m_raw_1 : decode M_m_raw.2.1 1 = .ok (.iconst 1, 1) := by decide +kernel
theorem d_m_raw_2 : decode M_m_raw.2.1 2 = .ok (.if_icmp .lt 24, 3) := by decide +kernel
theorem d_m_raw_5 : decode M_m_raw.2.1 5 = .ok (.iload_n 3, 1) := by decide +kernel
theorem d_m_raw_6 : decode M_m_raw.2.1 6 = .ok (.bipush 8, 2) := by decide +kernel
theorem d_m_raw_8 : decode M_m_raw.2.1 8 = .ok (.if_icmp .gt 18, 3) := by decide +kernel
theorem d_m_raw_11 : decode M_m_raw.2.1 11 = .ok (.aload_n 0, 1) := by decide +kernel
theorem d_m_raw_12 : decode M_m_raw.2.1 12 = .ok (.getfield 13, 3) := by decide +kernel
theorem d_m_raw_15 : decode M_m_raw.2.1 15 = .ok (.bipush 64, 2) := by decide +kernel
theorem d_m_raw_17 : decode M_m_raw.2.1 17 = .ok (.iaload, 1) := by decide +kernel
theorem d_m_raw_18 : decode M_m_raw.2.1 18 = .ok (.iload_n 3, 1) := by decide +kernel
theorem d_m_raw_19 : decode M_m_raw.2.1 19 = .ok (.iadd, 1) := by decide +kernel
theorem d_m_raw_20 : decode M_m_raw.2.1 20 = .ok (.sipush 240, 3) := by decide +kernel
theorem d_m_raw_23 : decode M_m_raw.2.1 23 = .ok (.if_icmp .le 5, 3) := by decide +kernel
theorem d_m_raw_26 : decode M_m_raw.2.1 26 = .ok (.iconst (-1), 1) := by decide +kernel
theorem d_m_raw_27 : decode M_m_raw.2.1 27 = .ok (.ireturn, 1) := by decide +kernel
theorem d_m_raw_28 : decode M_m_raw.2.1 28 = .ok (.iconst 0, 1) := by decide +kernel
theorem d_m_raw_29 : decode M_m_raw.2.1 29 = .ok (.istore 4, 2) := by decide +kernel
theorem d_m_raw_31 : decode M_m_raw.2.1 31 = .ok (.iload 4, 2) := by decide +kernel
theorem d_m_raw_33 : decode M_m_raw.2.1 33 = .ok (.iload_n 3, 1) := by decide +kernel
theorem d_m_raw_34 : decode M_m_raw.2.1 34 = .ok (.if_icmp .ge 27, 3) := by decide +kernel
theorem d_m_raw_37 : decode M_m_raw.2.1 37 = .ok (.aload_n 0, 1) := by decide +kernel
theorem d_m_raw_38 : decode M_m_raw.2.1 38 = .ok (.bipush 64, 2) := by decide +kernel
theorem d_m_raw_40 : decode M_m_raw.2.1 40 = .ok (.lload_n 1, 1) := by decide +kernel
theorem d_m_raw_41 : decode M_m_raw.2.1 41 = .ok (.bipush 8, 2) := by decide +kernel
theorem d_m_raw_43 : decode M_m_raw.2.1 43 = .ok (.iload 4, 2) := by decide +kernel
theorem d_m_raw_45 : decode M_m_raw.2.1 45 = .ok (.imul, 1) := by decide +kernel
theorem d_m_raw_46 : decode M_m_raw.2.1 46 = .ok (.lshr, 1) := by decide +kernel
theorem d_m_raw_47 : decode M_m_raw.2.1 47 = .ok (.ldc2_w 127, 3) := by decide +kernel
theorem d_m_raw_50 : decode M_m_raw.2.1 50 = .ok (.land, 1) := by decide +kernel
theorem d_m_raw_51 : decode M_m_raw.2.1 51 = .ok (.l2i, 1) := by decide +kernel
theorem d_m_raw_52 : decode M_m_raw.2.1 52 = .ok (.invokevirtual 111, 3) := by decide +kernel
theorem d_m_raw_55 : decode M_m_raw.2.1 55 = .ok (.iinc 4 1, 3) := by decide +kernel
theorem d_m_raw_58 : decode M_m_raw.2.1 58 = .ok (.goto (-27), 3) := by decide +kernel
theorem d_m_raw_61 : decode M_m_raw.2.1 61 = .ok (.aload_n 0, 1) := by decide +kernel
theorem d_m_raw_62 : decode M_m_raw.2.1 62 = .ok (.getfield 13, 3) := by decide +kernel
theorem d_m_raw_65 : decode M_m_raw.2.1 65 = .ok (.bipush 64, 2) := by decide +kernel
theorem d_m_raw_67 : decode M_m_raw.2.1 67 = .ok (.iaload, 1) := by decide +kernel
theorem d_m_raw_68 : decode M_m_raw.2.1 68 = .ok (.ireturn, 1) := by decide +kernel
theorem d_m_drop_0 : decode M_m_drop.2.1 0 = .ok (.aload_n 0, 1) := by decide +kernel
theorem d_m_drop_1 : decode M_m_drop.2.1 1 = .ok (.getfield 13, 3) := by decide +kernel
theorem d_m_drop_4 : decode M_m_drop.2.1 4 = .ok (.bipush 64, 2) := by decide +kernel
theorem d_m_drop_6 : decode M_m_drop.2.1 6 = .ok (.iaload, 1) := by decide +kernel
theorem d_m_drop_7 : decode M_m_drop.2.1 7 = .ok (.istore_n 1, 1) := by decide +kernel
theorem d_m_drop_8 : decode M_m_drop.2.1 8 = .ok (.aload_n 0, 1) := by decide +kernel
theorem d_m_drop_9 : decode M_m_drop.2.1 9 = .ok (.getfield 13, 3) := by decide +kernel
theorem d_m_drop_12 : decode M_m_drop.2.1 12 = .ok (.bipush 64, 2) := by decide +kernel
theorem d_m_drop_14 : decode M_m_drop.2.1 14 = .ok (.iconst 0, 1) := by decide +kernel
theorem d_m_drop_15 : decode M_m_drop.2.1 15 = .ok (.iastore, 1) := by decide +kernel
theorem d_m_drop_16 : decode M_m_drop.2.1 16 = .ok (.iload_n 1, 1) := by decide +kernel
theorem d_m_drop_17 : decode M_m_drop.2.1 17 = .ok (.ireturn, 1) := by decide +kernel
theorem d_m_files_0 : decode M_m_files.2.1 0 = .ok (.iload_n 1, 1) := by decide +kernel
theorem d_m_files_1 : decode M_m_files.2.1 1 = .ok (.invokestatic 129, 3) := by decide +kernel
theorem d_m_files_4 : decode M_m_files.2.1 4 = .ok (.ifCond .eq 13, 3) := by decide +kernel
theorem d_m_files_7 : decode M_m_files.2.1 7 = .ok (.aload_n 0, 1) := by decide +kernel
theorem d_m_files_8 : decode M_m_files.2.1 8 = .ok (.iload_n 1, 1) := by decide +kernel
theorem d_m_files_9 : decode M_m_files.2.1 9 = .ok (.bipush 64, 2) := by decide +kernel
theorem d_m_files_11 : decode M_m_files.2.1 11 = .ok (.invokevirtual 105, 3) := by decide +kernel
theorem d_m_files_14 : decode M_m_files.2.1 14 = .ok (.goto 4, 3) := by decide +kernel
theorem d_m_files_17 : decode M_m_files.2.1 17 = .ok (.iconst (-1), 1) := by decide +kernel
theorem d_m_files_18 : decode M_m_files.2.1 18 = .ok (.ireturn, 1) := by decide +kernel
theorem d_m_isRepository_0 : decode M_m_isRepository.2.1 0 = .ok (.iload_n 0, 1) := by decide +kernel
theorem d_m_isRepository_1 : decode M_m_isRepository.2.1 1 = .ok (.ifCond .eq 8, 3) := by decide +kernel
theorem d_m_isRepository_4 : decode M_m_isRepository.2.1 4 = .ok (.iload_n 0, 1) := by decide +kernel
theorem d_m_isRepository_5 : decode M_m_isRepository.2.1 5 = .ok (.iconst 1, 1) := by decide +kernel
theorem d_m_isRepository_6 : decode M_m_isRepository.2.1 6 = .ok (.if_icmp .ne 7, 3) := by decide +kernel
theorem d_m_isRepository_9 : decode M_m_isRepository.2.1 9 = .ok (.iconst 1, 1) := by decide +kernel
theorem d_m_isRepository_10 : decode M_m_isRepository.2.1 10 = .ok (.goto 4, 3) := by decide +kernel
theorem d_m_isRepository_13 : decode M_m_isRepository.2.1 13 = .ok (.iconst 0, 1) := by decide +kernel
theorem d_m_isRepository_14 : decode M_m_isRepository.2.1 14 = .ok (.ireturn, 1) := by decide +kernel
theorem d_m_filesOf_0 : decode M_m_filesOf.2.1 0 = .ok (.bipush 7, 2) := by decide +kernel
theorem d_m_filesOf_2 : decode M_m_filesOf.2.1 2 = .ok (.istore_n 3, 1) := by decide +kernel
theorem d_m_filesOf_3 : decode M_m_filesOf.2.1 3 = .ok (.iconst 0, 1) := by decide +kernel
theorem d_m_filesOf_4 : decode M_m_filesOf.2.1 4 = .ok (.istore 4, 2) := by decide +kernel
theorem d_m_filesOf_6 : decode M_m_filesOf.2.1 6 = .ok (.iload 4, 2) := by decide +kernel
theorem d_m_filesOf_8 : decode M_m_filesOf.2.1 8 = .ok (.aload_n 0, 1) := by decide +kernel
theorem d_m_filesOf_9 : decode M_m_filesOf.2.1 9 = .ok (.getfield 13, 3) := by decide +kernel
theorem d_m_filesOf_12 : decode M_m_filesOf.2.1 12 = .ok (.iload_n 2, 1) := by decide +kernel
theorem d_m_filesOf_13 : decode M_m_filesOf.2.1 13 = .ok (.iaload, 1) := by decide +kernel
theorem d_m_filesOf_14 : decode M_m_filesOf.2.1 14 = .ok (.if_icmp .ge 64, 3) := by decide +kernel
theorem d_m_filesOf_17 : decode M_m_filesOf.2.1 17 = .ok (.aload_n 0, 1) := by decide +kernel
theorem d_m_filesOf_18 : decode M_m_filesOf.2.1 18 = .ok (.iload_n 2, 1) := by decide +kernel
theorem d_m_filesOf_19 : decode M_m_filesOf.2.1 19 = .ok (.iload 4, 2) := by decide +kernel
theorem d_m_filesOf_21 : decode M_m_filesOf.2.1 21 = .ok (.invokevirtual 90, 3) := by decide +kernel
theorem d_m_filesOf_24 : decode M_m_filesOf.2.1 24 = .ok (.ifCond .eq 54, 3) := by decide +kernel
theorem d_m_filesOf_27 : decode M_m_filesOf.2.1 27 = .ok (.aload_n 0, 1) := by decide +kernel
theorem d_m_filesOf_28 : decode M_m_filesOf.2.1 28 = .ok (.getfield 51, 3) := by decide +kernel
theorem d_m_filesOf_31 : decode M_m_filesOf.2.1 31 = .ok (.istore 4, 2) := by decide +kernel
theorem d_m_filesOf_33 : decode M_m_filesOf.2.1 33 = .ok (.aload_n 0, 1) := by decide +kernel
theorem d_m_filesOf_34 : decode M_m_filesOf.2.1 34 = .ok (.getfield 47, 3) := by decide +kernel
theorem d_m_filesOf_37 : decode M_m_filesOf.2.1 37 = .ok (.bipush 70, 2) := by decide +kernel
theorem d_m_filesOf_39 : decode M_m_filesOf.2.1 39 = .ok (.if_icmp .ne (-33), 3) := by decide +kernel
theorem d_m_filesOf_42 : decode M_m_filesOf.2.1 42 = .ok (.aload_n 0, 1) := by decide +kernel
theorem d_m_filesOf_43 : decode M_m_filesOf.2.1 43 = .ok (.iload_n 1, 1) := by decide +kernel
theorem d_m_filesOf_44 : decode M_m_filesOf.2.1 44 = .ok (.aload_n 0, 1) := by decide +kernel
theorem d_m_filesOf_45 : decode M_m_filesOf.2.1 45 = .ok (.getfield 58, 3) := by decide +kernel
theorem d_m_filesOf_48 : decode M_m_filesOf.2.1 48 = .ok (.invokevirtual 98, 3) := by decide +kernel
theorem d_m_filesOf_51 : decode M_m_filesOf.2.1 51 = .ok (.istore 5, 2) := by decide +kernel
theorem d_m_filesOf_53 : decode M_m_filesOf.2.1 53 = .ok (.iload 5, 2) := by decide +kernel
theorem d_m_filesOf_55 : decode M_m_filesOf.2.1 55 = .ok (.ifCond .ge 5, 3) := by decide +kernel
theorem d_m_filesOf_58 : decode M_m_filesOf.2.1 58 = .ok (.iconst (-1), 1) := by decide +kernel
theorem d_m_filesOf_59 : decode M_m_filesOf.2.1 59 = .ok (.ireturn, 1) := by decide +kernel
theorem d_m_filesOf_60 : decode M_m_filesOf.2.1 60 = .ok (.aload_n 0, 1) := by decide +kernel
theorem d_m_filesOf_61 : decode M_m_filesOf.2.1 61 = .ok (.iload_n 3, 1) := by decide +kernel
theorem d_m_filesOf_62 : decode M_m_filesOf.2.1 62 = .ok (.iload 5, 2) := by decide +kernel
theorem d_m_filesOf_64 : decode M_m_filesOf.2.1 64 = .ok (.aload_n 0, 1) := by decide +kernel
theorem d_m_filesOf_65 : decode M_m_filesOf.2.1 65 = .ok (.getfield 13, 3) := by decide +kernel
theorem d_m_filesOf_68 : decode M_m_filesOf.2.1 68 = .ok (.iload 5, 2) := by decide +kernel
theorem d_m_filesOf_70 : decode M_m_filesOf.2.1 70 = .ok (.iaload, 1) := by decide +kernel
theorem d_m_filesOf_71 : decode M_m_filesOf.2.1 71 = .ok (.invokevirtual 94, 3) := by decide +kernel
theorem d_m_filesOf_74 : decode M_m_filesOf.2.1 74 = .ok (.istore_n 3, 1) := by decide +kernel
theorem d_m_filesOf_75 : decode M_m_filesOf.2.1 75 = .ok (.goto (-69), 3) := by decide +kernel
theorem d_m_filesOf_78 : decode M_m_filesOf.2.1 78 = .ok (.iload_n 3, 1) := by decide +kernel
theorem d_m_filesOf_79 : decode M_m_filesOf.2.1 79 = .ok (.ireturn, 1) := by decide +kernel
theorem d_m_readLine_0 : decode M_m_readLine.2.1 0 = .ok (.iload_n 2, 1) := by decide +kernel
theorem d_m_readLine_1 : decode M_m_readLine.2.1 1 = .ok (.istore_n 3, 1) := by decide +kernel
theorem d_m_readLine_2 : decode M_m_readLine.2.1 2 = .ok (.iload_n 3, 1) := by decide +kernel
theorem d_m_readLine_3 : decode M_m_readLine.2.1 3 = .ok (.aload_n 0, 1) := by decide +kernel
theorem d_m_readLine_4 : decode M_m_readLine.2.1 4 = .ok (.getfield 13, 3) := by decide +kernel
theorem d_m_readLine_7 : decode M_m_readLine.2.1 7 = .ok (.iload_n 1, 1) := by decide +kernel
theorem d_m_readLine_8 : decode M_m_readLine.2.1 8 = .ok (.iaload, 1) := by decide +kernel
theorem d_m_readLine_9 : decode M_m_readLine.2.1 9 = .ok (.if_icmp .ge 20, 3) := by decide +kernel
theorem d_m_readLine_12 : decode M_m_readLine.2.1 12 = .ok (.aload_n 0, 1) := by decide +kernel
theorem d_m_readLine_13 : decode M_m_readLine.2.1 13 = .ok (.iload_n 1, 1) := by decide +kernel
theorem d_m_readLine_14 : decode M_m_readLine.2.1 14 = .ok (.iload_n 3, 1) := by decide +kernel
theorem d_m_readLine_15 : decode M_m_readLine.2.1 15 = .ok (.invokevirtual 40, 3) := by decide +kernel
theorem d_m_readLine_18 : decode M_m_readLine.2.1 18 = .ok (.bipush 10, 2) := by decide +kernel
theorem d_m_readLine_20 : decode M_m_readLine.2.1 20 = .ok (.if_icmp .eq 9, 3) := by decide +kernel
theorem d_m_readLine_23 : decode M_m_readLine.2.1 23 = .ok (.iinc 3 1, 3) := by decide +kernel
theorem d_m_readLine_26 : decode M_m_readLine.2.1 26 = .ok (.goto (-24), 3) := by decide +kernel
theorem d_m_readLine_29 : decode M_m_readLine.2.1 29 = .ok (.aload_n 0, 1) := by decide +kernel
theorem d_m_readLine_30 : decode M_m_readLine.2.1 30 = .ok (.iconst 0, 1) := by decide +kernel
theorem d_m_readLine_31 : decode M_m_readLine.2.1 31 = .ok (.putfield 47, 3) := by decide +kernel
theorem d_m_readLine_34 : decode M_m_readLine.2.1 34 = .ok (.iload_n 3, 1) := by decide +kernel
theorem d_m_readLine_35 : decode M_m_readLine.2.1 35 = .ok (.aload_n 0, 1) := by decide +kernel
theorem d_m_readLine_36 : decode M_m_readLine.2.1 36 = .ok (.getfield 13, 3) := by decide +kernel
theorem d_m_readLine_39 : decode M_m_readLine.2.1 39 = .ok (.iload_n 1, 1) := by decide +kernel
theorem d_m_readLine_40 : decode M_m_readLine.2.1 40 = .ok (.iaload, 1) := by decide +kernel
theorem d_m_readLine_41 : decode M_m_readLine.2.1 41 = .ok (.if_icmp .lt 5, 3) := by decide +kernel
theorem d_m_readLine_44 : decode M_m_readLine.2.1 44 = .ok (.iconst 0, 1) := by decide +kernel
theorem d_m_readLine_45 : decode M_m_readLine.2.1 45 = .ok (.ireturn, 1) := by decide +kernel
theorem d_m_readLine_46 : decode M_m_readLine.2.1 46 = .ok (.aload_n 0, 1) := by decide +kernel
theorem d_m_readLine_47 : decode M_m_readLine.2.1 47 = .ok (.iload_n 3, 1) := by decide +kernel
theorem d_m_readLine_48 : decode M_m_readLine.2.1 48 = .ok (.iconst 1, 1) := by decide +kernel
theorem d_m_readLine_49 : decode M_m_readLine.2.1 49 = .ok (.iadd, 1) := by decide +kernel
theorem d_m_readLine_50 : decode M_m_readLine.2.1 50 = .ok (.putfield 51, 3) := by decide +kernel
theorem d_m_readLine_53 : decode M_m_readLine.2.1 53 = .ok (.iload_n 3, 1) := by decide +kernel
theorem d_m_readLine_54 : decode M_m_readLine.2.1 54 = .ok (.iload_n 2, 1) := by decide +kernel
theorem d_m_readLine_55 : decode M_m_readLine.2.1 55 = .ok (.isub, 1) := by decide +kernel
theorem d_m_readLine_56 : decode M_m_readLine.2.1 56 = .ok (.istore 4, 2) := by decide +kernel
theorem d_m_readLine_58 : decode M_m_readLine.2.1 58 = .ok (.iload 4, 2) := by decide +kernel
theorem d_m_readLine_60 : decode M_m_readLine.2.1 60 = .ok (.iconst 3, 1) := by decide +kernel
theorem d_m_readLine_61 : decode M_m_readLine.2.1 61 = .ok (.if_icmp .lt 37, 3) := by decide +kernel
theorem d_m_readLine_64 : decode M_m_readLine.2.1 64 = .ok (.aload_n 0, 1) := by decide +kernel
theorem d_m_readLine_65 : decode M_m_readLine.2.1 65 = .ok (.iload_n 1, 1) := by decide +kernel
theorem d_m_readLine_66 : decode M_m_readLine.2.1 66 = .ok (.iload_n 2, 1) := by decide +kernel
theorem d_m_readLine_67 : decode M_m_readLine.2.1 67 = .ok (.iconst 1, 1) := by decide +kernel
theorem d_m_readLine_68 : decode M_m_readLine.2.1 68 = .ok (.iadd, 1) := by decide +kernel
theorem d_m_readLine_69 : decode M_m_readLine.2.1 69 = .ok (.invokevirtual 40, 3) := by decide +kernel
theorem d_m_readLine_72 : decode M_m_readLine.2.1 72 = .ok (.bipush 32, 2) := by decide +kernel
theorem d_m_readLine_74 : decode M_m_readLine.2.1 74 = .ok (.if_icmp .ne 24, 3) := by decide +kernel
theorem d_m_readLine_77 : decode M_m_readLine.2.1 77 = .ok (.aload_n 0, 1) := by decide +kernel
theorem d_m_readLine_78 : decode M_m_readLine.2.1 78 = .ok (.iload_n 1, 1) := by decide +kernel
theorem d_m_readLine_79 : decode M_m_readLine.2.1 79 = .ok (.iload_n 2, 1) := by decide +kernel
theorem d_m_readLine_80 : decode M_m_readLine.2.1 80 = .ok (.iload 4, 2) := by decide +kernel
theorem d_m_readLine_82 : decode M_m_readLine.2.1 82 = .ok (.invokevirtual 54, 3) := by decide +kernel
theorem d_m_readLine_85 : decode M_m_readLine.2.1 85 = .ok (.ifCond .eq 13, 3) := by decide +kernel
theorem d_m_readLine_88 : decode M_m_readLine.2.1 88 = .ok (.aload_n 0, 1) := by decide +kernel
theorem d_m_readLine_89 : decode M_m_readLine.2.1 89 = .ok (.aload_n 0, 1) := by decide +kernel
theorem d_m_readLine_90 : decode M_m_readLine.2.1 90 = .ok (.iload_n 1, 1) := by decide +kernel
theorem d_m_readLine_91 : decode M_m_readLine.2.1 91 = .ok (.iload_n 2, 1) := by decide +kernel
theorem d_m_readLine_92 : decode M_m_readLine.2.1 92 = .ok (.invokevirtual 40, 3) := by decide +kernel
theorem d_m_readLine_95 : decode M_m_readLine.2.1 95 = .ok (.putfield 47, 3) := by decide +kernel
theorem d_m_readLine_98 : decode M_m_readLine.2.1 98 = .ok (.iconst 1, 1) := by decide +kernel
theorem d_m_readLine_99 : decode M_m_readLine.2.1 99 = .ok (.ireturn, 1) := by decide +kernel
theorem d_m_isCard_0 : decode M_m_isCard.2.1 0 = .ok (.aload_n 0, 1) := by decide +kernel
theorem d_m_isCard_1 : decode M_m_isCard.2.1 1 = .ok (.iload_n 1, 1) := by decide +kernel
theorem d_m_isCard_2 : decode M_m_isCard.2.1 2 = .ok (.iload_n 2, 1) := by decide +kernel
theorem d_m_isCard_3 : decode M_m_isCard.2.1 3 = .ok (.invokevirtual 40, 3) := by decide +kernel
theorem d_m_isCard_6 : decode M_m_isCard.2.1 6 = .ok (.istore 4, 2) := by decide +kernel
theorem d_m_isCard_8 : decode M_m_isCard.2.1 8 = .ok (.aload_n 0, 1) := by decide +kernel
theorem d_m_isCard_9 : decode M_m_isCard.2.1 9 = .ok (.iconst (-1), 1) := by decide +kernel
theorem d_m_isCard_10 : decode M_m_isCard.2.1 10 = .ok (.putfield 58, 3) := by decide +kernel
theorem d_m_isCard_13 : decode M_m_isCard.2.1 13 = .ok (.aload_n 0, 1) := by decide +kernel
theorem d_m_isCard_14 : decode M_m_isCard.2.1 14 = .ok (.iconst (-1), 1) := by decide +kernel
theorem d_m_isCard_15 : decode M_m_isCard.2.1 15 = .ok (.putfield 61, 3) := by decide +kernel
theorem d_m_isCard_18 : decode M_m_isCard.2.1 18 = .ok (.iload 4, 2) := by decide +kernel
theorem d_m_isCard_20 : decode M_m_isCard.2.1 20 = .ok (.bipush 68, 2) := by decide +kernel
theorem d_m_isCard_22 : decode M_m_isCard.2.1 22 = .ok (.if_icmp .ne 15, 3) := by decide +kernel
theorem d_m_isCard_25 : decode M_m_isCard.2.1 25 = .ok (.aload_n 0, 1) := by decide +kernel
theorem d_m_isCard_26 : decode M_m_isCard.2.1 26 = .ok (.iload_n 1, 1) := by decide +kernel
theorem d_m_isCard_27 : decode M_m_isCard.2.1 27 = .ok (.iload_n 2, 1) := by decide +kernel
theorem d_m_isCard_28 : decode M_m_isCard.2.1 28 = .ok (.iconst 2, 1) := by decide +kernel
theorem d_m_isCard_29 : decode M_m_isCard.2.1 29 = .ok (.iadd, 1) := by decide +kernel
theorem d_m_isCard_30 : decode M_m_isCard.2.1 30 = .ok (.iload_n 3, 1) := by decide +kernel
theorem d_m_isCard_31 : decode M_m_isCard.2.1 31 = .ok (.iconst 2, 1) := by decide +kernel
theorem d_m_isCard_32 : decode M_m_isCard.2.1 32 = .ok (.isub, 1) := by decide +kernel
theorem d_m_isCard_33 : decode M_m_isCard.2.1 33 = .ok (.invokevirtual 64, 3) := by decide +kernel
theorem d_m_isCard_36 : decode M_m_isCard.2.1 36 = .ok (.ireturn, 1) := by decide +kernel
theorem d_m_isCard_37 : decode M_m_isCard.2.1 37 = .ok (.iload 4, 2) := by decide +kernel
theorem d_m_isCard_39 : decode M_m_isCard.2.1 39 = .ok (.bipush 77, 2) := by decide +kernel
theorem d_m_isCard_41 : decode M_m_isCard.2.1 41 = .ok (.if_icmp .eq 17, 3) := by decide +kernel
theorem d_m_isCard_44 : decode M_m_isCard.2.1 44 = .ok (.iload 4, 2) := by decide +kernel
theorem d_m_isCard_46 : decode M_m_isCard.2.1 46 = .ok (.bipush 82, 2) := by decide +kernel
theorem d_m_isCard_48 : decode M_m_isCard.2.1 48 = .ok (.if_icmp .eq 10, 3) := by decide +kernel
theorem d_m_isCard_51 : decode M_m_isCard.2.1 51 = .ok (.iload 4, 2) := by decide +kernel
theorem d_m_isCard_53 : decode M_m_isCard.2.1 53 = .ok (.bipush 90, 2) := by decide +kernel
theorem d_m_isCard_55 : decode M_m_isCard.2.1 55 = .ok (.if_icmp .ne 34, 3) := by decide +kernel
theorem d_m_isCard_58 : decode M_m_isCard.2.1 58 = .ok (.iload_n 3, 1) := by decide +kernel
theorem d_m_isCard_59 : decode M_m_isCard.2.1 59 = .ok (.bipush 8, 2) := by decide +kernel
theorem d_m_isCard_61 : decode M_m_isCard.2.1 61 = .ok (.if_icmp .ne 15, 3) := by decide +kernel
theorem d_m_isCard_64 : decode M_m_isCard.2.1 64 = .ok (.aload_n 0, 1) := by decide +kernel
theorem d_m_isCard_65 : decode M_m_isCard.2.1 65 = .ok (.aload_n 0, 1) := by decide +kernel
theorem d_m_isCard_66 : decode M_m_isCard.2.1 66 = .ok (.iload_n 1, 1) := by decide +kernel
theorem d_m_isCard_67 : decode M_m_isCard.2.1 67 = .ok (.iload_n 2, 1) := by decide +kernel
theorem d_m_isCard_68 : decode M_m_isCard.2.1 68 = .ok (.iconst 2, 1) := by decide +kernel
theorem d_m_isCard_69 : decode M_m_isCard.2.1 69 = .ok (.iadd, 1) := by decide +kernel
theorem d_m_isCard_70 : decode M_m_isCard.2.1 70 = .ok (.invokevirtual 67, 3) := by decide +kernel
theorem d_m_isCard_73 : decode M_m_isCard.2.1 73 = .ok (.putfield 58, 3) := by decide +kernel
theorem d_m_isCard_76 : decode M_m_isCard.2.1 76 = .ok (.aload_n 0, 1) := by decide +kernel
theorem d_m_isCard_77 : decode M_m_isCard.2.1 77 = .ok (.getfield 58, 3) := by decide +kernel
theorem d_m_isCard_80 : decode M_m_isCard.2.1 80 = .ok (.ifCond .lt 7, 3) := by decide +kernel
theorem d_m_isCard_83 : decode M_m_isCard.2.1 83 = .ok (.iconst 1, 1) := by decide +kernel
theorem d_m_isCard_84 : decode M_m_isCard.2.1 84 = .ok (.goto 4, 3) := by decide +kernel
theorem d_m_isCard_87 : decode M_m_isCard.2.1 87 = .ok (.iconst 0, 1) := by decide +kernel
theorem d_m_isCard_88 : decode M_m_isCard.2.1 88 = .ok (.ireturn, 1) := by decide +kernel
theorem d_m_isCard_89 : decode M_m_isCard.2.1 89 = .ok (.iload 4, 2) := by decide +kernel
theorem d_m_isCard_91 : decode M_m_isCard.2.1 91 = .ok (.bipush 70, 2) := by decide +kernel
theorem d_m_isCard_93 : decode M_m_isCard.2.1 93 = .ok (.if_icmp .ne 78, 3) := by decide +kernel
theorem d_m_isCard_96 : decode M_m_isCard.2.1 96 = .ok (.iload_n 3, 1) := by decide +kernel
theorem d_m_isCard_97 : decode M_m_isCard.2.1 97 = .ok (.bipush 10, 2) := by decide +kernel
theorem d_m_isCard_99 : decode M_m_isCard.2.1 99 = .ok (.if_icmp .ne 30, 3) := by decide +kernel
theorem d_m_isCard_102 : decode M_m_isCard.2.1 102 = .ok (.aload_n 0, 1) := by decide +kernel
theorem d_m_isCard_103 : decode M_m_isCard.2.1 103 = .ok (.iload_n 1, 1) := by decide +kernel
theorem d_m_isCard_104 : decode M_m_isCard.2.1 104 = .ok (.iload_n 2, 1) := by decide +kernel
theorem d_m_isCard_105 : decode M_m_isCard.2.1 105 = .ok (.iconst 3, 1) := by decide +kernel
theorem d_m_isCard_106 : decode M_m_isCard.2.1 106 = .ok (.iadd, 1) := by decide +kernel
theorem d_m_isCard_107 : decode M_m_isCard.2.1 107 = .ok (.invokevirtual 40, 3) := by decide +kernel
theorem d_m_isCard_110 : decode M_m_isCard.2.1 110 = .ok (.bipush 32, 2) := by decide +kernel
theorem d_m_isCard_112 : decode M_m_isCard.2.1 112 = .ok (.if_icmp .ne 17, 3) := by decide +kernel
theorem d_m_isCard_115 : decode M_m_isCard.2.1 115 = .ok (.aload_n 0, 1) := by decide +kernel
theorem d_m_isCard_116 : decode M_m_isCard.2.1 116 = .ok (.iload_n 1, 1) := by decide +kernel
theorem d_m_isCard_117 : decode M_m_isCard.2.1 117 = .ok (.iload_n 2, 1) := by decide +kernel
theorem d_m_isCard_118 : decode M_m_isCard.2.1 118 = .ok (.iconst 2, 1) := by decide +kernel
theorem d_m_isCard_119 : decode M_m_isCard.2.1 119 = .ok (.iadd, 1) := by decide +kernel
theorem d_m_isCard_120 : decode M_m_isCard.2.1 120 = .ok (.invokevirtual 40, 3) := by decide +kernel
theorem d_m_isCard_123 : decode M_m_isCard.2.1 123 = .ok (.invokestatic 70, 3) := by decide +kernel
theorem d_m_isCard_126 : decode M_m_isCard.2.1 126 = .ok (.ifCond .ne 5, 3) := by decide +kernel
theorem d_m_isCard_129 : decode M_m_isCard.2.1 129 = .ok (.iconst 0, 1) := by decide +kernel
theorem d_m_isCard_130 : decode M_m_isCard.2.1 130 = .ok (.ireturn, 1) := by decide +kernel
theorem d_m_isCard_131 : decode M_m_isCard.2.1 131 = .ok (.aload_n 0, 1) := by decide +kernel
theorem d_m_isCard_132 : decode M_m_isCard.2.1 132 = .ok (.aload_n 0, 1) := by decide +kernel
theorem d_m_isCard_133 : decode M_m_isCard.2.1 133 = .ok (.iload_n 1, 1) := by decide +kernel
theorem d_m_isCard_134 : decode M_m_isCard.2.1 134 = .ok (.iload_n 2, 1) := by decide +kernel
theorem d_m_isCard_135 : decode M_m_isCard.2.1 135 = .ok (.iconst 2, 1) := by decide +kernel
theorem d_m_isCard_136 : decode M_m_isCard.2.1 136 = .ok (.iadd, 1) := by decide +kernel
theorem d_m_isCard_137 : decode M_m_isCard.2.1 137 = .ok (.invokevirtual 40, 3) := by decide +kernel
theorem d_m_isCard_140 : decode M_m_isCard.2.1 140 = .ok (.bipush 48, 2) := by decide +kernel
theorem d_m_isCard_142 : decode M_m_isCard.2.1 142 = .ok (.isub, 1) := by decide +kernel
theorem d_m_isCard_143 : decode M_m_isCard.2.1 143 = .ok (.putfield 74, 3) := by decide +kernel
theorem d_m_isCard_146 : decode M_m_isCard.2.1 146 = .ok (.aload_n 0, 1) := by decide +kernel
theorem d_m_isCard_147 : decode M_m_isCard.2.1 147 = .ok (.aload_n 0, 1) := by decide +kernel
theorem d_m_isCard_148 : decode M_m_isCard.2.1 148 = .ok (.iload_n 1, 1) := by decide +kernel
theorem d_m_isCard_149 : decode M_m_isCard.2.1 149 = .ok (.iload_n 2, 1) := by decide +kernel
theorem d_m_isCard_150 : decode M_m_isCard.2.1 150 = .ok (.iconst 4, 1) := by decide +kernel
theorem d_m_isCard_151 : decode M_m_isCard.2.1 151 = .ok (.iadd, 1) := by decide +kernel
theorem d_m_isCard_152 : decode M_m_isCard.2.1 152 = .ok (.invokevirtual 67, 3) := by decide +kernel
theorem d_m_isCard_155 : decode M_m_isCard.2.1 155 = .ok (.putfield 58, 3) := by decide +kernel
theorem d_m_isCard_158 : decode M_m_isCard.2.1 158 = .ok (.aload_n 0, 1) := by decide +kernel
theorem d_m_isCard_159 : decode M_m_isCard.2.1 159 = .ok (.getfield 58, 3) := by decide +kernel
theorem d_m_isCard_162 : decode M_m_isCard.2.1 162 = .ok (.ifCond .lt 7, 3) := by decide +kernel
theorem d_m_isCard_165 : decode M_m_isCard.2.1 165 = .ok (.iconst 1, 1) := by decide +kernel
theorem d_m_isCard_166 : decode M_m_isCard.2.1 166 = .ok (.goto 4, 3) := by decide +kernel
theorem d_m_isCard_169 : decode M_m_isCard.2.1 169 = .ok (.iconst 0, 1) := by decide +kernel
theorem d_m_isCard_170 : decode M_m_isCard.2.1 170 = .ok (.ireturn, 1) := by decide +kernel
theorem d_m_isCard_171 : decode M_m_isCard.2.1 171 = .ok (.iload 4, 2) := by decide +kernel
theorem d_m_isCard_173 : decode M_m_isCard.2.1 173 = .ok (.bipush 80, 2) := by decide +kernel
theorem d_m_isCard_175 : decode M_m_isCard.2.1 175 = .ok (.if_icmp .ne 11, 3) := by decide +kernel
theorem d_m_isCard_178 : decode M_m_isCard.2.1 178 = .ok (.aload_n 0, 1) := by decide +kernel
theorem d_m_isCard_179 : decode M_m_isCard.2.1 179 = .ok (.iload_n 1, 1) := by decide +kernel
theorem d_m_isCard_180 : decode M_m_isCard.2.1 180 = .ok (.iload_n 2, 1) := by decide +kernel
theorem d_m_isCard_181 : decode M_m_isCard.2.1 181 = .ok (.iload_n 3, 1) := by decide +kernel
theorem d_m_isCard_182 : decode M_m_isCard.2.1 182 = .ok (.invokevirtual 77, 3) := by decide +kernel
theorem d_m_isCard_185 : decode M_m_isCard.2.1 185 = .ok (.ireturn, 1) := by decide +kernel
theorem d_m_isCard_186 : decode M_m_isCard.2.1 186 = .ok (.iload 4, 2) := by decide +kernel
theorem d_m_isCard_188 : decode M_m_isCard.2.1 188 = .ok (.bipush 84, 2) := by decide +kernel
theorem d_m_isCard_190 : decode M_m_isCard.2.1 190 = .ok (.if_icmp .ne 17, 3) := by decide +kernel
theorem d_m_isCard_193 : decode M_m_isCard.2.1 193 = .ok (.aload_n 0, 1) := by decide +kernel
theorem d_m_isCard_194 : decode M_m_isCard.2.1 194 = .ok (.iload_n 1, 1) := by decide +kernel
theorem d_m_isCard_195 : decode M_m_isCard.2.1 195 = .ok (.iload_n 2, 1) := by decide +kernel
theorem d_m_isCard_196 : decode M_m_isCard.2.1 196 = .ok (.iload_n 3, 1) := by decide +kernel
theorem d_m_isCard_197 : decode M_m_isCard.2.1 197 = .ok (.invokevirtual 80, 3) := by decide +kernel
theorem d_m_isCard_200 : decode M_m_isCard.2.1 200 = .ok (.ifCond .eq 7, 3) := by decide +kernel
theorem d_m_isCard_203 : decode M_m_isCard.2.1 203 = .ok (.iconst 1, 1) := by decide +kernel
theorem d_m_isCard_204 : decode M_m_isCard.2.1 204 = .ok (.goto 4, 3) := by decide +kernel
theorem d_m_isCard_207 : decode M_m_isCard.2.1 207 = .ok (.iconst 0, 1) := by decide +kernel
theorem d_m_isCard_208 : decode M_m_isCard.2.1 208 = .ok (.ireturn, 1) := by decide +kernel

/-! Decode rows of the law. Own work. -/
theorem d_L_0 : decode M_L.2.1 0 = .ok (.new 7, 3) := by decide +kernel
theorem d_L_3 : decode M_L.2.1 3 = .ok (.dup, 1) := by decide +kernel
theorem d_L_4 : decode M_L.2.1 4 = .ok (.invokespecial 9, 3) := by decide +kernel
theorem d_L_7 : decode M_L.2.1 7 = .ok (.astore_n 1, 1) := by decide +kernel
theorem d_L_8 : decode M_L.2.1 8 = .ok (.new 10, 3) := by decide +kernel
theorem d_L_11 : decode M_L.2.1 11 = .ok (.dup, 1) := by decide +kernel
theorem d_L_12 : decode M_L.2.1 12 = .ok (.invokespecial 12, 3) := by decide +kernel
theorem d_L_15 : decode M_L.2.1 15 = .ok (.astore_n 2, 1) := by decide +kernel
theorem d_L_16 : decode M_L.2.1 16 = .ok (.iconst 0, 1) := by decide +kernel
theorem d_L_17 : decode M_L.2.1 17 = .ok (.istore_n 3, 1) := by decide +kernel
theorem d_L_18 : decode M_L.2.1 18 = .ok (.iload_n 3, 1) := by decide +kernel
theorem d_L_19 : decode M_L.2.1 19 = .ok (.aload_n 0, 1) := by decide +kernel
theorem d_L_20 : decode M_L.2.1 20 = .ok (.arraylength, 1) := by decide +kernel
theorem d_L_21 : decode M_L.2.1 21 = .ok (.iconst 4, 1) := by decide +kernel
theorem d_L_22 : decode M_L.2.1 22 = .ok (.isub, 1) := by decide +kernel
theorem d_L_23 : decode M_L.2.1 23 = .ok (.if_icmp .gt 684, 3) := by decide +kernel
theorem d_L_26 : decode M_L.2.1 26 = .ok (.aload_n 0, 1) := by decide +kernel
theorem d_L_27 : decode M_L.2.1 27 = .ok (.iload_n 3, 1) := by decide +kernel
theorem d_L_28 : decode M_L.2.1 28 = .ok (.iaload, 1) := by decide +kernel
theorem d_L_29 : decode M_L.2.1 29 = .ok (.bipush 31, 2) := by decide +kernel
theorem d_L_31 : decode M_L.2.1 31 = .ok (.iand, 1) := by decide +kernel
theorem d_L_32 : decode M_L.2.1 32 = .ok (.tableswitch 669 0 18 #[92, 135, 198, 211, 234, 257, 280, 303, 336, 379, 412, 435, 468, 491, 524, 557, 580, 623, 646], 92) := by decide +kernel
theorem d_L_124 : decode M_L.2.1 124 = .ok (.aload_n 1, 1) := by decide +kernel
theorem d_L_125 : decode M_L.2.1 125 = .ok (.aload_n 0, 1) := by decide +kernel
theorem d_L_126 : decode M_L.2.1 126 = .ok (.iload_n 3, 1) := by decide +kernel
theorem d_L_127 : decode M_L.2.1 127 = .ok (.iconst 1, 1) := by decide +kernel
theorem d_L_128 : decode M_L.2.1 128 = .ok (.iadd, 1) := by decide +kernel
theorem d_L_129 : decode M_L.2.1 129 = .ok (.iaload, 1) := by decide +kernel
theorem d_L_130 : decode M_L.2.1 130 = .ok (.aload_n 0, 1) := by decide +kernel
theorem d_L_131 : decode M_L.2.1 131 = .ok (.iload_n 3, 1) := by decide +kernel
theorem d_L_132 : decode M_L.2.1 132 = .ok (.iconst 2, 1) := by decide +kernel
theorem d_L_133 : decode M_L.2.1 133 = .ok (.iadd, 1) := by decide +kernel
theorem d_L_134 : decode M_L.2.1 134 = .ok (.iaload, 1) := by decide +kernel
theorem d_L_135 : decode M_L.2.1 135 = .ok (.aload_n 0, 1) := by decide +kernel
theorem d_L_136 : decode M_L.2.1 136 = .ok (.iload_n 3, 1) := by decide +kernel
theorem d_L_137 : decode M_L.2.1 137 = .ok (.iconst 3, 1) := by decide +kernel
theorem d_L_138 : decode M_L.2.1 138 = .ok (.iadd, 1) := by decide +kernel
theorem d_L_139 : decode M_L.2.1 139 = .ok (.iaload, 1) := by decide +kernel
theorem d_L_140 : decode M_L.2.1 140 = .ok (.invokevirtual 13, 3) := by decide +kernel
theorem d_L_143 : decode M_L.2.1 143 = .ok (.aload_n 2, 1) := by decide +kernel
theorem d_L_144 : decode M_L.2.1 144 = .ok (.aload_n 0, 1) := by decide +kernel
theorem d_L_145 : decode M_L.2.1 145 = .ok (.iload_n 3, 1) := by decide +kernel
theorem d_L_146 : decode M_L.2.1 146 = .ok (.iconst 1, 1) := by decide +kernel
theorem d_L_147 : decode M_L.2.1 147 = .ok (.iadd, 1) := by decide +kernel
theorem d_L_148 : decode M_L.2.1 148 = .ok (.iaload, 1) := by decide +kernel
theorem d_L_149 : decode M_L.2.1 149 = .ok (.aload_n 0, 1) := by decide +kernel
theorem d_L_150 : decode M_L.2.1 150 = .ok (.iload_n 3, 1) := by decide +kernel
theorem d_L_151 : decode M_L.2.1 151 = .ok (.iconst 2, 1) := by decide +kernel
theorem d_L_152 : decode M_L.2.1 152 = .ok (.iadd, 1) := by decide +kernel
theorem d_L_153 : decode M_L.2.1 153 = .ok (.iaload, 1) := by decide +kernel
theorem d_L_154 : decode M_L.2.1 154 = .ok (.aload_n 0, 1) := by decide +kernel
theorem d_L_155 : decode M_L.2.1 155 = .ok (.iload_n 3, 1) := by decide +kernel
theorem d_L_156 : decode M_L.2.1 156 = .ok (.iconst 3, 1) := by decide +kernel
theorem d_L_157 : decode M_L.2.1 157 = .ok (.iadd, 1) := by decide +kernel
theorem d_L_158 : decode M_L.2.1 158 = .ok (.iaload, 1) := by decide +kernel
theorem d_L_159 : decode M_L.2.1 159 = .ok (.invokevirtual 17, 3) := by decide +kernel
theorem d_L_162 : decode M_L.2.1 162 = .ok (.if_icmp .eq 539, 3) := by decide +kernel
theorem d_L_165 : decode M_L.2.1 165 = .ok (.iconst 0, 1) := by decide +kernel
theorem d_L_166 : decode M_L.2.1 166 = .ok (.ireturn, 1) := by decide +kernel
theorem d_L_167 : decode M_L.2.1 167 = .ok (.aload_n 1, 1) := by decide +kernel
theorem d_L_168 : decode M_L.2.1 168 = .ok (.aload_n 0, 1) := by decide +kernel
theorem d_L_169 : decode M_L.2.1 169 = .ok (.iload_n 3, 1) := by decide +kernel
theorem d_L_170 : decode M_L.2.1 170 = .ok (.iconst 1, 1) := by decide +kernel
theorem d_L_171 : decode M_L.2.1 171 = .ok (.iadd, 1) := by decide +kernel
theorem d_L_172 : decode M_L.2.1 172 = .ok (.iaload, 1) := by decide +kernel
theorem d_L_173 : decode M_L.2.1 173 = .ok (.i2l, 1) := by decide +kernel
theorem d_L_174 : decode M_L.2.1 174 = .ok (.bipush 32, 2) := by decide +kernel
theorem d_L_176 : decode M_L.2.1 176 = .ok (.lshl, 1) := by decide +kernel
theorem d_L_177 : decode M_L.2.1 177 = .ok (.aload_n 0, 1) := by decide +kernel
theorem d_L_178 : decode M_L.2.1 178 = .ok (.iload_n 3, 1) := by decide +kernel
theorem d_L_179 : decode M_L.2.1 179 = .ok (.iconst 2, 1) := by decide +kernel
theorem d_L_180 : decode M_L.2.1 180 = .ok (.iadd, 1) := by decide +kernel
theorem d_L_181 : decode M_L.2.1 181 = .ok (.iaload, 1) := by decide +kernel
theorem d_L_182 : decode M_L.2.1 182 = .ok (.i2l, 1) := by decide +kernel
theorem d_L_183 : decode M_L.2.1 183 = .ok (.ldc2_w 18, 3) := by decide +kernel
theorem d_L_186 : decode M_L.2.1 186 = .ok (.land, 1) := by decide +kernel
theorem d_L_187 : decode M_L.2.1 187 = .ok (.lor, 1) := by decide +kernel
theorem d_L_188 : decode M_L.2.1 188 = .ok (.aload_n 0, 1) := by decide +kernel
theorem d_L_189 : decode M_L.2.1 189 = .ok (.iload_n 3, 1) := by decide +kernel
theorem d_L_190 : decode M_L.2.1 190 = .ok (.iconst 3, 1) := by decide +kernel
theorem d_L_191 : decode M_L.2.1 191 = .ok (.iadd, 1) := by decide +kernel
theorem d_L_192 : decode M_L.2.1 192 = .ok (.iaload, 1) := by decide +kernel
theorem d_L_193 : decode M_L.2.1 193 = .ok (.invokevirtual 20, 3) := by decide +kernel
theorem d_L_196 : decode M_L.2.1 196 = .ok (.aload_n 2, 1) := by decide +kernel
theorem d_L_197 : decode M_L.2.1 197 = .ok (.aload_n 0, 1) := by decide +kernel
theorem d_L_198 : decode M_L.2.1 198 = .ok (.iload_n 3, 1) := by decide +kernel
theorem d_L_199 : decode M_L.2.1 199 = .ok (.iconst 1, 1) := by decide +kernel
theorem d_L_200 : decode M_L.2.1 200 = .ok (.iadd, 1) := by decide +kernel
theorem d_L_201 : decode M_L.2.1 201 = .ok (.iaload, 1) := by decide +kernel
theorem d_L_202 : decode M_L.2.1 202 = .ok (.i2l, 1) := by decide +kernel
theorem d_L_203 : decode M_L.2.1 203 = .ok (.bipush 32, 2) := by decide +kernel
theorem d_L_205 : decode M_L.2.1 205 = .ok (.lshl, 1) := by decide +kernel
theorem d_L_206 : decode M_L.2.1 206 = .ok (.aload_n 0, 1) := by decide +kernel
theorem d_L_207 : decode M_L.2.1 207 = .ok (.iload_n 3, 1) := by decide +kernel
theorem d_L_208 : decode M_L.2.1 208 = .ok (.iconst 2, 1) := by decide +kernel
theorem d_L_209 : decode M_L.2.1 209 = .ok (.iadd, 1) := by decide +kernel
theorem d_L_210 : decode M_L.2.1 210 = .ok (.iaload, 1) := by decide +kernel
theorem d_L_211 : decode M_L.2.1 211 = .ok (.i2l, 1) := by decide +kernel
theorem d_L_212 : decode M_L.2.1 212 = .ok (.ldc2_w 18, 3) := by decide +kernel
theorem d_L_215 : decode M_L.2.1 215 = .ok (.land, 1) := by decide +kernel
theorem d_L_216 : decode M_L.2.1 216 = .ok (.lor, 1) := by decide +kernel
theorem d_L_217 : decode M_L.2.1 217 = .ok (.aload_n 0, 1) := by decide +kernel
theorem d_L_218 : decode M_L.2.1 218 = .ok (.iload_n 3, 1) := by decide +kernel
theorem d_L_219 : decode M_L.2.1 219 = .ok (.iconst 3, 1) := by decide +kernel
theorem d_L_220 : decode M_L.2.1 220 = .ok (.iadd, 1) := by decide +kernel
theorem d_L_221 : decode M_L.2.1 221 = .ok (.iaload, 1) := by decide +kernel
theorem d_L_222 : decode M_L.2.1 222 = .ok (.invokevirtual 24, 3) := by decide +kernel
theorem d_L_225 : decode M_L.2.1 225 = .ok (.if_icmp .eq 476, 3) := by decide +kernel
theorem d_L_228 : decode M_L.2.1 228 = .ok (.iconst 0, 1) := by decide +kernel
theorem d_L_229 : decode M_L.2.1 229 = .ok (.ireturn, 1) := by decide +kernel
theorem d_L_230 : decode M_L.2.1 230 = .ok (.aload_n 1, 1) := by decide +kernel
theorem d_L_231 : decode M_L.2.1 231 = .ok (.invokevirtual 25, 3) := by decide +kernel
theorem d_L_234 : decode M_L.2.1 234 = .ok (.aload_n 2, 1) := by decide +kernel
theorem d_L_235 : decode M_L.2.1 235 = .ok (.invokevirtual 29, 3) := by decide +kernel
theorem d_L_238 : decode M_L.2.1 238 = .ok (.if_icmp .eq 463, 3) := by decide +kernel
theorem d_L_241 : decode M_L.2.1 241 = .ok (.iconst 0, 1) := by decide +kernel
theorem d_L_242 : decode M_L.2.1 242 = .ok (.ireturn, 1) := by decide +kernel
theorem d_L_243 : decode M_L.2.1 243 = .ok (.aload_n 1, 1) := by decide +kernel
theorem d_L_244 : decode M_L.2.1 244 = .ok (.aload_n 0, 1) := by decide +kernel
theorem d_L_245 : decode M_L.2.1 245 = .ok (.iload_n 3, 1) := by decide +kernel
theorem d_L_246 : decode M_L.2.1 246 = .ok (.iconst 1, 1) := by decide +kernel
theorem d_L_247 : decode M_L.2.1 247 = .ok (.iadd, 1) := by decide +kernel
theorem d_L_248 : decode M_L.2.1 248 = .ok (.iaload, 1) := by decide +kernel
theorem d_L_249 : decode M_L.2.1 249 = .ok (.invokevirtual 30, 3) := by decide +kernel
theorem d_L_252 : decode M_L.2.1 252 = .ok (.aload_n 2, 1) := by decide +kernel
theorem d_L_253 : decode M_L.2.1 253 = .ok (.aload_n 0, 1) := by decide +kernel
theorem d_L_254 : decode M_L.2.1 254 = .ok (.iload_n 3, 1) := by decide +kernel
theorem d_L_255 : decode M_L.2.1 255 = .ok (.iconst 1, 1) := by decide +kernel
theorem d_L_256 : decode M_L.2.1 256 = .ok (.iadd, 1) := by decide +kernel
theorem d_L_257 : decode M_L.2.1 257 = .ok (.iaload, 1) := by decide +kernel
theorem d_L_258 : decode M_L.2.1 258 = .ok (.invokevirtual 34, 3) := by decide +kernel
theorem d_L_261 : decode M_L.2.1 261 = .ok (.if_icmp .eq 440, 3) := by decide +kernel
theorem d_L_264 : decode M_L.2.1 264 = .ok (.iconst 0, 1) := by decide +kernel
theorem d_L_265 : decode M_L.2.1 265 = .ok (.ireturn, 1) := by decide +kernel
theorem d_L_266 : decode M_L.2.1 266 = .ok (.aload_n 1, 1) := by decide +kernel
theorem d_L_267 : decode M_L.2.1 267 = .ok (.aload_n 0, 1) := by decide +kernel
theorem d_L_268 : decode M_L.2.1 268 = .ok (.iload_n 3, 1) := by decide +kernel
theorem d_L_269 : decode M_L.2.1 269 = .ok (.iconst 1, 1) := by decide +kernel
theorem d_L_270 : decode M_L.2.1 270 = .ok (.iadd, 1) := by decide +kernel
theorem d_L_271 : decode M_L.2.1 271 = .ok (.iaload, 1) := by decide +kernel
theorem d_L_272 : decode M_L.2.1 272 = .ok (.invokevirtual 35, 3) := by decide +kernel
theorem d_L_275 : decode M_L.2.1 275 = .ok (.aload_n 2, 1) := by decide +kernel
theorem d_L_276 : decode M_L.2.1 276 = .ok (.aload_n 0, 1) := by decide +kernel
theorem d_L_277 : decode M_L.2.1 277 = .ok (.iload_n 3, 1) := by decide +kernel
theorem d_L_278 : decode M_L.2.1 278 = .ok (.iconst 1, 1) := by decide +kernel
theorem d_L_279 : decode M_L.2.1 279 = .ok (.iadd, 1) := by decide +kernel
theorem d_L_280 : decode M_L.2.1 280 = .ok (.iaload, 1) := by decide +kernel
theorem d_L_281 : decode M_L.2.1 281 = .ok (.invokevirtual 38, 3) := by decide +kernel
theorem d_L_284 : decode M_L.2.1 284 = .ok (.if_icmp .eq 417, 3) := by decide +kernel
theorem d_L_287 : decode M_L.2.1 287 = .ok (.iconst 0, 1) := by decide +kernel
theorem d_L_288 : decode M_L.2.1 288 = .ok (.ireturn, 1) := by decide +kernel
theorem d_L_289 : decode M_L.2.1 289 = .ok (.aload_n 1, 1) := by decide +kernel
theorem d_L_290 : decode M_L.2.1 290 = .ok (.aload_n 0, 1) := by decide +kernel
theorem d_L_291 : decode M_L.2.1 291 = .ok (.iload_n 3, 1) := by decide +kernel
theorem d_L_292 : decode M_L.2.1 292 = .ok (.iconst 1, 1) := by decide +kernel
theorem d_L_293 : decode M_L.2.1 293 = .ok (.iadd, 1) := by decide +kernel
theorem d_L_294 : decode M_L.2.1 294 = .ok (.iaload, 1) := by decide +kernel
theorem d_L_295 : decode M_L.2.1 295 = .ok (.invokevirtual 39, 3) := by decide +kernel
theorem d_L_298 : decode M_L.2.1 298 = .ok (.aload_n 2, 1) := by decide +kernel
theorem d_L_299 : decode M_L.2.1 299 = .ok (.aload_n 0, 1) := by decide +kernel
theorem d_L_300 : decode M_L.2.1 300 = .ok (.iload_n 3, 1) := by decide +kernel
theorem d_L_301 : decode M_L.2.1 301 = .ok (.iconst 1, 1) := by decide +kernel
theorem d_L_302 : decode M_L.2.1 302 = .ok (.iadd, 1) := by decide +kernel
theorem d_L_303 : decode M_L.2.1 303 = .ok (.iaload, 1) := by decide +kernel
theorem d_L_304 : decode M_L.2.1 304 = .ok (.invokevirtual 42, 3) := by decide +kernel
theorem d_L_307 : decode M_L.2.1 307 = .ok (.if_icmp .eq 394, 3) := by decide +kernel
theorem d_L_310 : decode M_L.2.1 310 = .ok (.iconst 0, 1) := by decide +kernel
theorem d_L_311 : decode M_L.2.1 311 = .ok (.ireturn, 1) := by decide +kernel
theorem d_L_312 : decode M_L.2.1 312 = .ok (.aload_n 1, 1) := by decide +kernel
theorem d_L_313 : decode M_L.2.1 313 = .ok (.aload_n 0, 1) := by decide +kernel
theorem d_L_314 : decode M_L.2.1 314 = .ok (.iload_n 3, 1) := by decide +kernel
theorem d_L_315 : decode M_L.2.1 315 = .ok (.iconst 1, 1) := by decide +kernel
theorem d_L_316 : decode M_L.2.1 316 = .ok (.iadd, 1) := by decide +kernel
theorem d_L_317 : decode M_L.2.1 317 = .ok (.iaload, 1) := by decide +kernel
theorem d_L_318 : decode M_L.2.1 318 = .ok (.invokevirtual 43, 3) := by decide +kernel
theorem d_L_321 : decode M_L.2.1 321 = .ok (.aload_n 2, 1) := by decide +kernel
theorem d_L_322 : decode M_L.2.1 322 = .ok (.aload_n 0, 1) := by decide +kernel
theorem d_L_323 : decode M_L.2.1 323 = .ok (.iload_n 3, 1) := by decide +kernel
theorem d_L_324 : decode M_L.2.1 324 = .ok (.iconst 1, 1) := by decide +kernel
theorem d_L_325 : decode M_L.2.1 325 = .ok (.iadd, 1) := by decide +kernel
theorem d_L_326 : decode M_L.2.1 326 = .ok (.iaload, 1) := by decide +kernel
theorem d_L_327 : decode M_L.2.1 327 = .ok (.invokevirtual 46, 3) := by decide +kernel
theorem d_L_330 : decode M_L.2.1 330 = .ok (.if_icmp .eq 371, 3) := by decide +kernel
theorem d_L_333 : decode M_L.2.1 333 = .ok (.iconst 0, 1) := by decide +kernel
theorem d_L_334 : decode M_L.2.1 334 = .ok (.ireturn, 1) := by decide +kernel
theorem d_L_335 : decode M_L.2.1 335 = .ok (.aload_n 1, 1) := by decide +kernel
theorem d_L_336 : decode M_L.2.1 336 = .ok (.aload_n 0, 1) := by decide +kernel
theorem d_L_337 : decode M_L.2.1 337 = .ok (.iload_n 3, 1) := by decide +kernel
theorem d_L_338 : decode M_L.2.1 338 = .ok (.iconst 1, 1) := by decide +kernel
theorem d_L_339 : decode M_L.2.1 339 = .ok (.iadd, 1) := by decide +kernel
theorem d_L_340 : decode M_L.2.1 340 = .ok (.iaload, 1) := by decide +kernel
theorem d_L_341 : decode M_L.2.1 341 = .ok (.aload_n 0, 1) := by decide +kernel
theorem d_L_342 : decode M_L.2.1 342 = .ok (.iload_n 3, 1) := by decide +kernel
theorem d_L_343 : decode M_L.2.1 343 = .ok (.iconst 2, 1) := by decide +kernel
theorem d_L_344 : decode M_L.2.1 344 = .ok (.iadd, 1) := by decide +kernel
theorem d_L_345 : decode M_L.2.1 345 = .ok (.iaload, 1) := by decide +kernel
theorem d_L_346 : decode M_L.2.1 346 = .ok (.invokevirtual 47, 3) := by decide +kernel
theorem d_L_349 : decode M_L.2.1 349 = .ok (.aload_n 2, 1) := by decide +kernel
theorem d_L_350 : decode M_L.2.1 350 = .ok (.aload_n 0, 1) := by decide +kernel
theorem d_L_351 : decode M_L.2.1 351 = .ok (.iload_n 3, 1) := by decide +kernel
theorem d_L_352 : decode M_L.2.1 352 = .ok (.iconst 1, 1) := by decide +kernel
theorem d_L_353 : decode M_L.2.1 353 = .ok (.iadd, 1) := by decide +kernel
theorem d_L_354 : decode M_L.2.1 354 = .ok (.iaload, 1) := by decide +kernel
theorem d_L_355 : decode M_L.2.1 355 = .ok (.aload_n 0, 1) := by decide +kernel
theorem d_L_356 : decode M_L.2.1 356 = .ok (.iload_n 3, 1) := by decide +kernel
theorem d_L_357 : decode M_L.2.1 357 = .ok (.iconst 2, 1) := by decide +kernel
theorem d_L_358 : decode M_L.2.1 358 = .ok (.iadd, 1) := by decide +kernel
theorem d_L_359 : decode M_L.2.1 359 = .ok (.iaload, 1) := by decide +kernel
theorem d_L_360 : decode M_L.2.1 360 = .ok (.invokevirtual 51, 3) := by decide +kernel
theorem d_L_363 : decode M_L.2.1 363 = .ok (.if_icmp .eq 338, 3) := by decide +kernel
theorem d_L_366 : decode M_L.2.1 366 = .ok (.iconst 0, 1) := by decide +kernel
theorem d_L_367 : decode M_L.2.1 367 = .ok (.ireturn, 1) := by decide +kernel
theorem d_L_368 : decode M_L.2.1 368 = .ok (.aload_n 1, 1) := by decide +kernel
theorem d_L_369 : decode M_L.2.1 369 = .ok (.aload_n 0, 1) := by decide +kernel
theorem d_L_370 : decode M_L.2.1 370 = .ok (.iload_n 3, 1) := by decide +kernel
theorem d_L_371 : decode M_L.2.1 371 = .ok (.iconst 1, 1) := by decide +kernel
theorem d_L_372 : decode M_L.2.1 372 = .ok (.iadd, 1) := by decide +kernel
theorem d_L_373 : decode M_L.2.1 373 = .ok (.iaload, 1) := by decide +kernel
theorem d_L_374 : decode M_L.2.1 374 = .ok (.aload_n 0, 1) := by decide +kernel
theorem d_L_375 : decode M_L.2.1 375 = .ok (.iload_n 3, 1) := by decide +kernel
theorem d_L_376 : decode M_L.2.1 376 = .ok (.iconst 2, 1) := by decide +kernel
theorem d_L_377 : decode M_L.2.1 377 = .ok (.iadd, 1) := by decide +kernel
theorem d_L_378 : decode M_L.2.1 378 = .ok (.iaload, 1) := by decide +kernel
theorem d_L_379 : decode M_L.2.1 379 = .ok (.aload_n 0, 1) := by decide +kernel
theorem d_L_380 : decode M_L.2.1 380 = .ok (.iload_n 3, 1) := by decide +kernel
theorem d_L_381 : decode M_L.2.1 381 = .ok (.iconst 3, 1) := by decide +kernel
theorem d_L_382 : decode M_L.2.1 382 = .ok (.iadd, 1) := by decide +kernel
theorem d_L_383 : decode M_L.2.1 383 = .ok (.iaload, 1) := by decide +kernel
theorem d_L_384 : decode M_L.2.1 384 = .ok (.invokevirtual 52, 3) := by decide +kernel
theorem d_L_387 : decode M_L.2.1 387 = .ok (.aload_n 2, 1) := by decide +kernel
theorem d_L_388 : decode M_L.2.1 388 = .ok (.aload_n 0, 1) := by decide +kernel
theorem d_L_389 : decode M_L.2.1 389 = .ok (.iload_n 3, 1) := by decide +kernel
theorem d_L_390 : decode M_L.2.1 390 = .ok (.iconst 1, 1) := by decide +kernel
theorem d_L_391 : decode M_L.2.1 391 = .ok (.iadd, 1) := by decide +kernel
theorem d_L_392 : decode M_L.2.1 392 = .ok (.iaload, 1) := by decide +kernel
theorem d_L_393 : decode M_L.2.1 393 = .ok (.aload_n 0, 1) := by decide +kernel
theorem d_L_394 : decode M_L.2.1 394 = .ok (.iload_n 3, 1) := by decide +kernel
theorem d_L_395 : decode M_L.2.1 395 = .ok (.iconst 2, 1) := by decide +kernel
theorem d_L_396 : decode M_L.2.1 396 = .ok (.iadd, 1) := by decide +kernel
theorem d_L_397 : decode M_L.2.1 397 = .ok (.iaload, 1) := by decide +kernel
theorem d_L_398 : decode M_L.2.1 398 = .ok (.aload_n 0, 1) := by decide +kernel
theorem d_L_399 : decode M_L.2.1 399 = .ok (.iload_n 3, 1) := by decide +kernel
theorem d_L_400 : decode M_L.2.1 400 = .ok (.iconst 3, 1) := by decide +kernel
theorem d_L_401 : decode M_L.2.1 401 = .ok (.iadd, 1) := by decide +kernel
theorem d_L_402 : decode M_L.2.1 402 = .ok (.iaload, 1) := by decide +kernel
theorem d_L_403 : decode M_L.2.1 403 = .ok (.invokevirtual 55, 3) := by decide +kernel
theorem d_L_406 : decode M_L.2.1 406 = .ok (.if_icmp .eq 295, 3) := by decide +kernel
theorem d_L_409 : decode M_L.2.1 409 = .ok (.iconst 0, 1) := by decide +kernel
theorem d_L_410 : decode M_L.2.1 410 = .ok (.ireturn, 1) := by decide +kernel
theorem d_L_411 : decode M_L.2.1 411 = .ok (.aload_n 1, 1) := by decide +kernel
theorem d_L_412 : decode M_L.2.1 412 = .ok (.aload_n 0, 1) := by decide +kernel
theorem d_L_413 : decode M_L.2.1 413 = .ok (.iload_n 3, 1) := by decide +kernel
theorem d_L_414 : decode M_L.2.1 414 = .ok (.iconst 1, 1) := by decide +kernel
theorem d_L_415 : decode M_L.2.1 415 = .ok (.iadd, 1) := by decide +kernel
theorem d_L_416 : decode M_L.2.1 416 = .ok (.iaload, 1) := by decide +kernel
theorem d_L_417 : decode M_L.2.1 417 = .ok (.aload_n 0, 1) := by decide +kernel
theorem d_L_418 : decode M_L.2.1 418 = .ok (.iload_n 3, 1) := by decide +kernel
theorem d_L_419 : decode M_L.2.1 419 = .ok (.iconst 2, 1) := by decide +kernel
theorem d_L_420 : decode M_L.2.1 420 = .ok (.iadd, 1) := by decide +kernel
theorem d_L_421 : decode M_L.2.1 421 = .ok (.iaload, 1) := by decide +kernel
theorem d_L_422 : decode M_L.2.1 422 = .ok (.invokevirtual 56, 3) := by decide +kernel
theorem d_L_425 : decode M_L.2.1 425 = .ok (.aload_n 2, 1) := by decide +kernel
theorem d_L_426 : decode M_L.2.1 426 = .ok (.aload_n 0, 1) := by decide +kernel
theorem d_L_427 : decode M_L.2.1 427 = .ok (.iload_n 3, 1) := by decide +kernel
theorem d_L_428 : decode M_L.2.1 428 = .ok (.iconst 1, 1) := by decide +kernel
theorem d_L_429 : decode M_L.2.1 429 = .ok (.iadd, 1) := by decide +kernel
theorem d_L_430 : decode M_L.2.1 430 = .ok (.iaload, 1) := by decide +kernel
theorem d_L_431 : decode M_L.2.1 431 = .ok (.aload_n 0, 1) := by decide +kernel
theorem d_L_432 : decode M_L.2.1 432 = .ok (.iload_n 3, 1) := by decide +kernel
theorem d_L_433 : decode M_L.2.1 433 = .ok (.iconst 2, 1) := by decide +kernel
theorem d_L_434 : decode M_L.2.1 434 = .ok (.iadd, 1) := by decide +kernel
theorem d_L_435 : decode M_L.2.1 435 = .ok (.iaload, 1) := by decide +kernel
theorem d_L_436 : decode M_L.2.1 436 = .ok (.invokevirtual 59, 3) := by decide +kernel
theorem d_L_439 : decode M_L.2.1 439 = .ok (.if_icmp .eq 262, 3) := by decide +kernel
theorem d_L_442 : decode M_L.2.1 442 = .ok (.iconst 0, 1) := by decide +kernel
theorem d_L_443 : decode M_L.2.1 443 = .ok (.ireturn, 1) := by decide +kernel
theorem d_L_444 : decode M_L.2.1 444 = .ok (.aload_n 1, 1) := by decide +kernel
theorem d_L_445 : decode M_L.2.1 445 = .ok (.aload_n 0, 1) := by decide +kernel
theorem d_L_446 : decode M_L.2.1 446 = .ok (.iload_n 3, 1) := by decide +kernel
theorem d_L_447 : decode M_L.2.1 447 = .ok (.iconst 1, 1) := by decide +kernel
theorem d_L_448 : decode M_L.2.1 448 = .ok (.iadd, 1) := by decide +kernel
theorem d_L_449 : decode M_L.2.1 449 = .ok (.iaload, 1) := by decide +kernel
theorem d_L_450 : decode M_L.2.1 450 = .ok (.invokevirtual 60, 3) := by decide +kernel
theorem d_L_453 : decode M_L.2.1 453 = .ok (.aload_n 2, 1) := by decide +kernel
theorem d_L_454 : decode M_L.2.1 454 = .ok (.aload_n 0, 1) := by decide +kernel
theorem d_L_455 : decode M_L.2.1 455 = .ok (.iload_n 3, 1) := by decide +kernel
theorem d_L_456 : decode M_L.2.1 456 = .ok (.iconst 1, 1) := by decide +kernel
theorem d_L_457 : decode M_L.2.1 457 = .ok (.iadd, 1) := by decide +kernel
theorem d_L_458 : decode M_L.2.1 458 = .ok (.iaload, 1) := by decide +kernel
theorem d_L_459 : decode M_L.2.1 459 = .ok (.invokevirtual 63, 3) := by decide +kernel
theorem d_L_462 : decode M_L.2.1 462 = .ok (.if_icmp .eq 239, 3) := by decide +kernel
theorem d_L_465 : decode M_L.2.1 465 = .ok (.iconst 0, 1) := by decide +kernel
theorem d_L_466 : decode M_L.2.1 466 = .ok (.ireturn, 1) := by decide +kernel
theorem d_L_467 : decode M_L.2.1 467 = .ok (.aload_n 1, 1) := by decide +kernel
theorem d_L_468 : decode M_L.2.1 468 = .ok (.aload_n 0, 1) := by decide +kernel
theorem d_L_469 : decode M_L.2.1 469 = .ok (.iload_n 3, 1) := by decide +kernel
theorem d_L_470 : decode M_L.2.1 470 = .ok (.iconst 1, 1) := by decide +kernel
theorem d_L_471 : decode M_L.2.1 471 = .ok (.iadd, 1) := by decide +kernel
theorem d_L_472 : decode M_L.2.1 472 = .ok (.iaload, 1) := by decide +kernel
theorem d_L_473 : decode M_L.2.1 473 = .ok (.aload_n 0, 1) := by decide +kernel
theorem d_L_474 : decode M_L.2.1 474 = .ok (.iload_n 3, 1) := by decide +kernel
theorem d_L_475 : decode M_L.2.1 475 = .ok (.iconst 2, 1) := by decide +kernel
theorem d_L_476 : decode M_L.2.1 476 = .ok (.iadd, 1) := by decide +kernel
theorem d_L_477 : decode M_L.2.1 477 = .ok (.iaload, 1) := by decide +kernel
theorem d_L_478 : decode M_L.2.1 478 = .ok (.invokevirtual 64, 3) := by decide +kernel
theorem d_L_481 : decode M_L.2.1 481 = .ok (.aload_n 2, 1) := by decide +kernel
theorem d_L_482 : decode M_L.2.1 482 = .ok (.aload_n 0, 1) := by decide +kernel
theorem d_L_483 : decode M_L.2.1 483 = .ok (.iload_n 3, 1) := by decide +kernel
theorem d_L_484 : decode M_L.2.1 484 = .ok (.iconst 1, 1) := by decide +kernel
theorem d_L_485 : decode M_L.2.1 485 = .ok (.iadd, 1) := by decide +kernel
theorem d_L_486 : decode M_L.2.1 486 = .ok (.iaload, 1) := by decide +kernel
theorem d_L_487 : decode M_L.2.1 487 = .ok (.aload_n 0, 1) := by decide +kernel
theorem d_L_488 : decode M_L.2.1 488 = .ok (.iload_n 3, 1) := by decide +kernel
theorem d_L_489 : decode M_L.2.1 489 = .ok (.iconst 2, 1) := by decide +kernel
theorem d_L_490 : decode M_L.2.1 490 = .ok (.iadd, 1) := by decide +kernel
theorem d_L_491 : decode M_L.2.1 491 = .ok (.iaload, 1) := by decide +kernel
theorem d_L_492 : decode M_L.2.1 492 = .ok (.invokevirtual 68, 3) := by decide +kernel
theorem d_L_495 : decode M_L.2.1 495 = .ok (.if_icmp .eq 206, 3) := by decide +kernel
theorem d_L_498 : decode M_L.2.1 498 = .ok (.iconst 0, 1) := by decide +kernel
theorem d_L_499 : decode M_L.2.1 499 = .ok (.ireturn, 1) := by decide +kernel
theorem d_L_500 : decode M_L.2.1 500 = .ok (.aload_n 1, 1) := by decide +kernel
theorem d_L_501 : decode M_L.2.1 501 = .ok (.aload_n 0, 1) := by decide +kernel
theorem d_L_502 : decode M_L.2.1 502 = .ok (.iload_n 3, 1) := by decide +kernel
theorem d_L_503 : decode M_L.2.1 503 = .ok (.iconst 1, 1) := by decide +kernel
theorem d_L_504 : decode M_L.2.1 504 = .ok (.iadd, 1) := by decide +kernel
theorem d_L_505 : decode M_L.2.1 505 = .ok (.iaload, 1) := by decide +kernel
theorem d_L_506 : decode M_L.2.1 506 = .ok (.invokevirtual 69, 3) := by decide +kernel
theorem d_L_509 : decode M_L.2.1 509 = .ok (.aload_n 2, 1) := by decide +kernel
theorem d_L_510 : decode M_L.2.1 510 = .ok (.aload_n 0, 1) := by decide +kernel
theorem d_L_511 : decode M_L.2.1 511 = .ok (.iload_n 3, 1) := by decide +kernel
theorem d_L_512 : decode M_L.2.1 512 = .ok (.iconst 1, 1) := by decide +kernel
theorem d_L_513 : decode M_L.2.1 513 = .ok (.iadd, 1) := by decide +kernel
theorem d_L_514 : decode M_L.2.1 514 = .ok (.iaload, 1) := by decide +kernel
theorem d_L_515 : decode M_L.2.1 515 = .ok (.invokevirtual 72, 3) := by decide +kernel
theorem d_L_518 : decode M_L.2.1 518 = .ok (.if_icmp .eq 183, 3) := by decide +kernel
theorem d_L_521 : decode M_L.2.1 521 = .ok (.iconst 0, 1) := by decide +kernel
theorem d_L_522 : decode M_L.2.1 522 = .ok (.ireturn, 1) := by decide +kernel
theorem d_L_523 : decode M_L.2.1 523 = .ok (.aload_n 1, 1) := by decide +kernel
theorem d_L_524 : decode M_L.2.1 524 = .ok (.aload_n 0, 1) := by decide +kernel
theorem d_L_525 : decode M_L.2.1 525 = .ok (.iload_n 3, 1) := by decide +kernel
theorem d_L_526 : decode M_L.2.1 526 = .ok (.iconst 1, 1) := by decide +kernel
theorem d_L_527 : decode M_L.2.1 527 = .ok (.iadd, 1) := by decide +kernel
theorem d_L_528 : decode M_L.2.1 528 = .ok (.iaload, 1) := by decide +kernel
theorem d_L_529 : decode M_L.2.1 529 = .ok (.aload_n 0, 1) := by decide +kernel
theorem d_L_530 : decode M_L.2.1 530 = .ok (.iload_n 3, 1) := by decide +kernel
theorem d_L_531 : decode M_L.2.1 531 = .ok (.iconst 2, 1) := by decide +kernel
theorem d_L_532 : decode M_L.2.1 532 = .ok (.iadd, 1) := by decide +kernel
theorem d_L_533 : decode M_L.2.1 533 = .ok (.iaload, 1) := by decide +kernel
theorem d_L_534 : decode M_L.2.1 534 = .ok (.invokevirtual 73, 3) := by decide +kernel
theorem d_L_537 : decode M_L.2.1 537 = .ok (.aload_n 2, 1) := by decide +kernel
theorem d_L_538 : decode M_L.2.1 538 = .ok (.aload_n 0, 1) := by decide +kernel
theorem d_L_539 : decode M_L.2.1 539 = .ok (.iload_n 3, 1) := by decide +kernel
theorem d_L_540 : decode M_L.2.1 540 = .ok (.iconst 1, 1) := by decide +kernel
theorem d_L_541 : decode M_L.2.1 541 = .ok (.iadd, 1) := by decide +kernel
theorem d_L_542 : decode M_L.2.1 542 = .ok (.iaload, 1) := by decide +kernel
theorem d_L_543 : decode M_L.2.1 543 = .ok (.aload_n 0, 1) := by decide +kernel
theorem d_L_544 : decode M_L.2.1 544 = .ok (.iload_n 3, 1) := by decide +kernel
theorem d_L_545 : decode M_L.2.1 545 = .ok (.iconst 2, 1) := by decide +kernel
theorem d_L_546 : decode M_L.2.1 546 = .ok (.iadd, 1) := by decide +kernel
theorem d_L_547 : decode M_L.2.1 547 = .ok (.iaload, 1) := by decide +kernel
theorem d_L_548 : decode M_L.2.1 548 = .ok (.invokevirtual 76, 3) := by decide +kernel
theorem d_L_551 : decode M_L.2.1 551 = .ok (.if_icmp .eq 150, 3) := by decide +kernel
theorem d_L_554 : decode M_L.2.1 554 = .ok (.iconst 0, 1) := by decide +kernel
theorem d_L_555 : decode M_L.2.1 555 = .ok (.ireturn, 1) := by decide +kernel
theorem d_L_556 : decode M_L.2.1 556 = .ok (.aload_n 1, 1) := by decide +kernel
theorem d_L_557 : decode M_L.2.1 557 = .ok (.aload_n 0, 1) := by decide +kernel
theorem d_L_558 : decode M_L.2.1 558 = .ok (.iload_n 3, 1) := by decide +kernel
theorem d_L_559 : decode M_L.2.1 559 = .ok (.iconst 1, 1) := by decide +kernel
theorem d_L_560 : decode M_L.2.1 560 = .ok (.iadd, 1) := by decide +kernel
theorem d_L_561 : decode M_L.2.1 561 = .ok (.iaload, 1) := by decide +kernel
theorem d_L_562 : decode M_L.2.1 562 = .ok (.aload_n 0, 1) := by decide +kernel
theorem d_L_563 : decode M_L.2.1 563 = .ok (.iload_n 3, 1) := by decide +kernel
theorem d_L_564 : decode M_L.2.1 564 = .ok (.iconst 2, 1) := by decide +kernel
theorem d_L_565 : decode M_L.2.1 565 = .ok (.iadd, 1) := by decide +kernel
theorem d_L_566 : decode M_L.2.1 566 = .ok (.iaload, 1) := by decide +kernel
theorem d_L_567 : decode M_L.2.1 567 = .ok (.invokevirtual 77, 3) := by decide +kernel
theorem d_L_570 : decode M_L.2.1 570 = .ok (.aload_n 2, 1) := by decide +kernel
theorem d_L_571 : decode M_L.2.1 571 = .ok (.aload_n 0, 1) := by decide +kernel
theorem d_L_572 : decode M_L.2.1 572 = .ok (.iload_n 3, 1) := by decide +kernel
theorem d_L_573 : decode M_L.2.1 573 = .ok (.iconst 1, 1) := by decide +kernel
theorem d_L_574 : decode M_L.2.1 574 = .ok (.iadd, 1) := by decide +kernel
theorem d_L_575 : decode M_L.2.1 575 = .ok (.iaload, 1) := by decide +kernel
theorem d_L_576 : decode M_L.2.1 576 = .ok (.aload_n 0, 1) := by decide +kernel
theorem d_L_577 : decode M_L.2.1 577 = .ok (.iload_n 3, 1) := by decide +kernel
theorem d_L_578 : decode M_L.2.1 578 = .ok (.iconst 2, 1) := by decide +kernel
theorem d_L_579 : decode M_L.2.1 579 = .ok (.iadd, 1) := by decide +kernel
theorem d_L_580 : decode M_L.2.1 580 = .ok (.iaload, 1) := by decide +kernel
theorem d_L_581 : decode M_L.2.1 581 = .ok (.invokevirtual 80, 3) := by decide +kernel
theorem d_L_584 : decode M_L.2.1 584 = .ok (.if_icmp .eq 117, 3) := by decide +kernel
theorem d_L_587 : decode M_L.2.1 587 = .ok (.iconst 0, 1) := by decide +kernel
theorem d_L_588 : decode M_L.2.1 588 = .ok (.ireturn, 1) := by decide +kernel
theorem d_L_589 : decode M_L.2.1 589 = .ok (.aload_n 1, 1) := by decide +kernel
theorem d_L_590 : decode M_L.2.1 590 = .ok (.aload_n 0, 1) := by decide +kernel
theorem d_L_591 : decode M_L.2.1 591 = .ok (.iload_n 3, 1) := by decide +kernel
theorem d_L_592 : decode M_L.2.1 592 = .ok (.iconst 1, 1) := by decide +kernel
theorem d_L_593 : decode M_L.2.1 593 = .ok (.iadd, 1) := by decide +kernel
theorem d_L_594 : decode M_L.2.1 594 = .ok (.iaload, 1) := by decide +kernel
theorem d_L_595 : decode M_L.2.1 595 = .ok (.invokevirtual 81, 3) := by decide +kernel
theorem d_L_598 : decode M_L.2.1 598 = .ok (.aload_n 2, 1) := by decide +kernel
theorem d_L_599 : decode M_L.2.1 599 = .ok (.aload_n 0, 1) := by decide +kernel
theorem d_L_600 : decode M_L.2.1 600 = .ok (.iload_n 3, 1) := by decide +kernel
theorem d_L_601 : decode M_L.2.1 601 = .ok (.iconst 1, 1) := by decide +kernel
theorem d_L_602 : decode M_L.2.1 602 = .ok (.iadd, 1) := by decide +kernel
theorem d_L_603 : decode M_L.2.1 603 = .ok (.iaload, 1) := by decide +kernel
theorem d_L_604 : decode M_L.2.1 604 = .ok (.invokevirtual 84, 3) := by decide +kernel
theorem d_L_607 : decode M_L.2.1 607 = .ok (.if_icmp .eq 94, 3) := by decide +kernel
theorem d_L_610 : decode M_L.2.1 610 = .ok (.iconst 0, 1) := by decide +kernel
theorem d_L_611 : decode M_L.2.1 611 = .ok (.ireturn, 1) := by decide +kernel
theorem d_L_612 : decode M_L.2.1 612 = .ok (.aload_n 1, 1) := by decide +kernel
theorem d_L_613 : decode M_L.2.1 613 = .ok (.aload_n 0, 1) := by decide +kernel
theorem d_L_614 : decode M_L.2.1 614 = .ok (.iload_n 3, 1) := by decide +kernel
theorem d_L_615 : decode M_L.2.1 615 = .ok (.iconst 1, 1) := by decide +kernel
theorem d_L_616 : decode M_L.2.1 616 = .ok (.iadd, 1) := by decide +kernel
theorem d_L_617 : decode M_L.2.1 617 = .ok (.iaload, 1) := by decide +kernel
theorem d_L_618 : decode M_L.2.1 618 = .ok (.aload_n 0, 1) := by decide +kernel
theorem d_L_619 : decode M_L.2.1 619 = .ok (.iload_n 3, 1) := by decide +kernel
theorem d_L_620 : decode M_L.2.1 620 = .ok (.iconst 2, 1) := by decide +kernel
theorem d_L_621 : decode M_L.2.1 621 = .ok (.iadd, 1) := by decide +kernel
theorem d_L_622 : decode M_L.2.1 622 = .ok (.iaload, 1) := by decide +kernel
theorem d_L_623 : decode M_L.2.1 623 = .ok (.aload_n 0, 1) := by decide +kernel
theorem d_L_624 : decode M_L.2.1 624 = .ok (.iload_n 3, 1) := by decide +kernel
theorem d_L_625 : decode M_L.2.1 625 = .ok (.iconst 3, 1) := by decide +kernel
theorem d_L_626 : decode M_L.2.1 626 = .ok (.iadd, 1) := by decide +kernel
theorem d_L_627 : decode M_L.2.1 627 = .ok (.iaload, 1) := by decide +kernel
theorem d_L_628 : decode M_L.2.1 628 = .ok (.invokevirtual 85, 3) := by decide +kernel
theorem d_L_631 : decode M_L.2.1 631 = .ok (.aload_n 2, 1) := by decide +kernel
theorem d_L_632 : decode M_L.2.1 632 = .ok (.aload_n 0, 1) := by decide +kernel
theorem d_L_633 : decode M_L.2.1 633 = .ok (.iload_n 3, 1) := by decide +kernel
theorem d_L_634 : decode M_L.2.1 634 = .ok (.iconst 1, 1) := by decide +kernel
theorem d_L_635 : decode M_L.2.1 635 = .ok (.iadd, 1) := by decide +kernel
theorem d_L_636 : decode M_L.2.1 636 = .ok (.iaload, 1) := by decide +kernel
theorem d_L_637 : decode M_L.2.1 637 = .ok (.aload_n 0, 1) := by decide +kernel
theorem d_L_638 : decode M_L.2.1 638 = .ok (.iload_n 3, 1) := by decide +kernel
theorem d_L_639 : decode M_L.2.1 639 = .ok (.iconst 2, 1) := by decide +kernel
theorem d_L_640 : decode M_L.2.1 640 = .ok (.iadd, 1) := by decide +kernel
theorem d_L_641 : decode M_L.2.1 641 = .ok (.iaload, 1) := by decide +kernel
theorem d_L_642 : decode M_L.2.1 642 = .ok (.aload_n 0, 1) := by decide +kernel
theorem d_L_643 : decode M_L.2.1 643 = .ok (.iload_n 3, 1) := by decide +kernel
theorem d_L_644 : decode M_L.2.1 644 = .ok (.iconst 3, 1) := by decide +kernel
theorem d_L_645 : decode M_L.2.1 645 = .ok (.iadd, 1) := by decide +kernel
theorem d_L_646 : decode M_L.2.1 646 = .ok (.iaload, 1) := by decide +kernel
theorem d_L_647 : decode M_L.2.1 647 = .ok (.invokevirtual 88, 3) := by decide +kernel
theorem d_L_650 : decode M_L.2.1 650 = .ok (.if_icmp .eq 51, 3) := by decide +kernel
theorem d_L_653 : decode M_L.2.1 653 = .ok (.iconst 0, 1) := by decide +kernel
theorem d_L_654 : decode M_L.2.1 654 = .ok (.ireturn, 1) := by decide +kernel
theorem d_L_655 : decode M_L.2.1 655 = .ok (.aload_n 1, 1) := by decide +kernel
theorem d_L_656 : decode M_L.2.1 656 = .ok (.aload_n 0, 1) := by decide +kernel
theorem d_L_657 : decode M_L.2.1 657 = .ok (.iload_n 3, 1) := by decide +kernel
theorem d_L_658 : decode M_L.2.1 658 = .ok (.iconst 1, 1) := by decide +kernel
theorem d_L_659 : decode M_L.2.1 659 = .ok (.iadd, 1) := by decide +kernel
theorem d_L_660 : decode M_L.2.1 660 = .ok (.iaload, 1) := by decide +kernel
theorem d_L_661 : decode M_L.2.1 661 = .ok (.invokevirtual 89, 3) := by decide +kernel
theorem d_L_664 : decode M_L.2.1 664 = .ok (.aload_n 2, 1) := by decide +kernel
theorem d_L_665 : decode M_L.2.1 665 = .ok (.aload_n 0, 1) := by decide +kernel
theorem d_L_666 : decode M_L.2.1 666 = .ok (.iload_n 3, 1) := by decide +kernel
theorem d_L_667 : decode M_L.2.1 667 = .ok (.iconst 1, 1) := by decide +kernel
theorem d_L_668 : decode M_L.2.1 668 = .ok (.iadd, 1) := by decide +kernel
theorem d_L_669 : decode M_L.2.1 669 = .ok (.iaload, 1) := by decide +kernel
theorem d_L_670 : decode M_L.2.1 670 = .ok (.invokevirtual 92, 3) := by decide +kernel
theorem d_L_673 : decode M_L.2.1 673 = .ok (.if_icmp .eq 28, 3) := by decide +kernel
theorem d_L_676 : decode M_L.2.1 676 = .ok (.iconst 0, 1) := by decide +kernel
theorem d_L_677 : decode M_L.2.1 677 = .ok (.ireturn, 1) := by decide +kernel
theorem d_L_678 : decode M_L.2.1 678 = .ok (.aload_n 1, 1) := by decide +kernel
theorem d_L_679 : decode M_L.2.1 679 = .ok (.aload_n 0, 1) := by decide +kernel
theorem d_L_680 : decode M_L.2.1 680 = .ok (.iload_n 3, 1) := by decide +kernel
theorem d_L_681 : decode M_L.2.1 681 = .ok (.iconst 1, 1) := by decide +kernel
theorem d_L_682 : decode M_L.2.1 682 = .ok (.iadd, 1) := by decide +kernel
theorem d_L_683 : decode M_L.2.1 683 = .ok (.iaload, 1) := by decide +kernel
theorem d_L_684 : decode M_L.2.1 684 = .ok (.invokevirtual 93, 3) := by decide +kernel
theorem d_L_687 : decode M_L.2.1 687 = .ok (.aload_n 2, 1) := by decide +kernel
theorem d_L_688 : decode M_L.2.1 688 = .ok (.aload_n 0, 1) := by decide +kernel
theorem d_L_689 : decode M_L.2.1 689 = .ok (.iload_n 3, 1) := by decide +kernel
theorem d_L_690 : decode M_L.2.1 690 = .ok (.iconst 1, 1) := by decide +kernel
theorem d_L_691 : decode M_L.2.1 691 = .ok (.iadd, 1) := by decide +kernel
theorem d_L_692 : decode M_L.2.1 692 = .ok (.iaload, 1) := by decide +kernel
theorem d_L_693 : decode M_L.2.1 693 = .ok (.invokevirtual 96, 3) := by decide +kernel
theorem d_L_696 : decode M_L.2.1 696 = .ok (.if_icmp .eq 5, 3) := by decide +kernel
theorem d_L_699 : decode M_L.2.1 699 = .ok (.iconst 0, 1) := by decide +kernel
theorem d_L_700 : decode M_L.2.1 700 = .ok (.ireturn, 1) := by decide +kernel
theorem d_L_701 : decode M_L.2.1 701 = .ok (.iinc 3 4, 3) := by decide +kernel
theorem d_L_704 : decode M_L.2.1 704 = .ok (.goto (-686), 3) := by decide +kernel
theorem d_L_707 : decode M_L.2.1 707 = .ok (.iconst 1, 1) := by decide +kernel
theorem d_L_708 : decode M_L.2.1 708 = .ok (.ireturn, 1) := by decide +kernel

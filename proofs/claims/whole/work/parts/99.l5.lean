/-! The law: its calls, one by one, and its loop. Own work. -/
def bdL (i P cu su : Nat) : Prop := cu + 96 ≤ 35 + 240 * i + P ∧ su + 192 ≤ 19499 + 1600 * i + 2 * P ∧ i ≤ 512
section LAW
variable {X : Nat × Nat × (Nat → Int32)} {l : Launch} {D : zD} {x o P j i cu su : Nat} {h : zH}
theorem law_card (hi : INV D x o P h) (hj : j + 4 ≤ X.2.1) (hL : X.2.1 ≤ 2048) (hji : j = 4 * i) (hb : bdL i P cu su) (K : ∀ P' h' cu' su', INV D x o P' h' → bdL (i + 1) P' cu' su' → ZL X l D M_L 600000 7302250 (fun _ => True) h' cu' su' 18 [some (.ref X.1), some (.ref x), some (.ref o), some (.int (nI (j + 4)))] []) : ZL X l D M_L 600000 7302250 (fun _ => True) h cu su 124 [some (.ref X.1), some (.ref x), some (.ref o), some (.int (nI j))] [] := by
  obtain ⟨u, mc, ms, b0, b1, b2, ⟨fs, hx⟩, r⟩ := step_card (l := l) (X.2.2 (j + 1)) (X.2.2 (j + 2)) (X.2.2 (j + 3)) hi
  obtain ⟨c1, c2, c3⟩ := hb
  refine y_aload_n d_L_124 125 rfl rfl rfl ?_
  refine y_aload_n d_L_125 126 rfl rfl rfl ?_
  refine y_iload_n d_L_126 127 rfl rfl rfl ?_
  refine y_iconst (v := nI 1) d_L_127 128 rfl rfl ?_
  refine y_iadd d_L_128 129 rfl ?_
  rw [nI_add]
  refine y_sld d_L_129 130 rfl (vp_in_nI (by omega) (by omega)) ?_
  rw [nI_clamp (by omega)]
  refine y_aload_n d_L_130 131 rfl rfl rfl ?_
  refine y_iload_n d_L_131 132 rfl rfl rfl ?_
  refine y_iconst (v := nI 2) d_L_132 133 rfl rfl ?_
  refine y_iadd d_L_133 134 rfl ?_
  rw [nI_add]
  refine y_sld d_L_134 135 rfl (vp_in_nI (by omega) (by omega)) ?_
  rw [nI_clamp (by omega)]
  refine y_aload_n d_L_135 136 rfl rfl rfl ?_
  refine y_iload_n d_L_136 137 rfl rfl rfl ?_
  refine y_iconst (v := nI 3) d_L_137 138 rfl rfl ?_
  refine y_iadd d_L_138 139 rfl ?_
  rw [nI_add]
  refine y_sld d_L_139 140 rfl (vp_in_nI (by omega) (by omega)) ?_
  rw [nI_clamp (by omega)]
  refine y_cV d_L_140 143 rfl mv_B_card kl_L_13 (by decide) (cu + mc) (su + ms) rfl rfl (by omega) (by omega) hx r rfl rfl (Nat.le_of_ble_eq_true rfl) ?_
  rintro _ h1 ⟨v, rfl, ⟨fs2, ho⟩, r2⟩
  refine y_aload_n d_L_143 144 rfl rfl rfl ?_
  refine y_aload_n d_L_144 145 rfl rfl rfl ?_
  refine y_iload_n d_L_145 146 rfl rfl rfl ?_
  refine y_iconst (v := nI 1) d_L_146 147 rfl rfl ?_
  refine y_iadd d_L_147 148 rfl ?_
  rw [nI_add]
  refine y_sld d_L_148 149 rfl (vp_in_nI (by omega) (by omega)) ?_
  rw [nI_clamp (by omega)]
  refine y_aload_n d_L_149 150 rfl rfl rfl ?_
  refine y_iload_n d_L_150 151 rfl rfl rfl ?_
  refine y_iconst (v := nI 2) d_L_151 152 rfl rfl ?_
  refine y_iadd d_L_152 153 rfl ?_
  rw [nI_add]
  refine y_sld d_L_153 154 rfl (vp_in_nI (by omega) (by omega)) ?_
  rw [nI_clamp (by omega)]
  refine y_aload_n d_L_154 155 rfl rfl rfl ?_
  refine y_iload_n d_L_155 156 rfl rfl rfl ?_
  refine y_iconst (v := nI 3) d_L_156 157 rfl rfl ?_
  refine y_iadd d_L_157 158 rfl ?_
  rw [nI_add]
  refine y_sld d_L_158 159 rfl (vp_in_nI (by omega) (by omega)) ?_
  rw [nI_clamp (by omega)]
  refine y_cV d_L_159 162 rfl mv_m_card kl_L_17 (by decide) (cu + mc + 0) (su + ms + 0) rfl rfl (by omega) (by omega) ho r2 rfl rfl (Nat.le_of_ble_eq_true rfl) ?_
  rintro _ h2 ⟨rfl, inv⟩
  refine y_icmp_eq (tgt := 701) d_L_162 165 rfl rfl (fun _ => ?_) (fun e => absurd rfl e)
  refine y_inc3 (v := nI (j + 4)) d_L_701 704 rfl (nI_add j 4) rfl ?_
  refine y_goto (tgt := 18) d_L_704 rfl ?_
  exact K (P + u) h2 (cu + mc + 0) (su + ms + 0) inv ⟨by omega, by omega, by omega⟩
theorem law_raw (hi : INV D x o P h) (hj : j + 4 ≤ X.2.1) (hL : X.2.1 ≤ 2048) (hji : j = 4 * i) (hb : bdL i P cu su) (K : ∀ P' h' cu' su', INV D x o P' h' → bdL (i + 1) P' cu' su' → ZL X l D M_L 600000 7302250 (fun _ => True) h' cu' su' 18 [some (.ref X.1), some (.ref x), some (.ref o), some (.int (nI (j + 4)))] []) : ZL X l D M_L 600000 7302250 (fun _ => True) h cu su 167 [some (.ref X.1), some (.ref x), some (.ref o), some (.int (nI j))] [] := by
  obtain ⟨u, mc, ms, b0, b1, b2, ⟨fs, hx⟩, r⟩ := step_raw (l := l) ((X.2.2 (j + 1)).toInt64 <<< ((nI 32).toInt64 &&& 63) ||| ((X.2.2 (j + 2)).toInt64 &&& lN 4294967295)) (X.2.2 (j + 3)) hi
  obtain ⟨c1, c2, c3⟩ := hb
  refine y_aload_n d_L_167 168 rfl rfl rfl ?_
  refine y_aload_n d_L_168 169 rfl rfl rfl ?_
  refine y_iload_n d_L_169 170 rfl rfl rfl ?_
  refine y_iconst (v := nI 1) d_L_170 171 rfl rfl ?_
  refine y_iadd d_L_171 172 rfl ?_
  rw [nI_add]
  refine y_sld d_L_172 173 rfl (vp_in_nI (by omega) (by omega)) ?_
  rw [nI_clamp (by omega)]
  refine y_i2l d_L_173 174 rfl rfl ?_
  refine y_bipush (v := nI 32) d_L_174 176 rfl rfl ?_
  refine y_lshl d_L_176 177 rfl rfl ?_
  refine y_aload_n d_L_177 178 rfl rfl rfl ?_
  refine y_iload_n d_L_178 179 rfl rfl rfl ?_
  refine y_iconst (v := nI 2) d_L_179 180 rfl rfl ?_
  refine y_iadd d_L_180 181 rfl ?_
  rw [nI_add]
  refine y_sld d_L_181 182 rfl (vp_in_nI (by omega) (by omega)) ?_
  rw [nI_clamp (by omega)]
  refine y_i2l d_L_182 183 rfl rfl ?_
  refine y_ldc2 d_L_183 186 rfl ct_L_18 ?_
  refine y_land d_L_186 187 rfl ?_
  refine y_lor d_L_187 188 rfl ?_
  refine y_aload_n d_L_188 189 rfl rfl rfl ?_
  refine y_iload_n d_L_189 190 rfl rfl rfl ?_
  refine y_iconst (v := nI 3) d_L_190 191 rfl rfl ?_
  refine y_iadd d_L_191 192 rfl ?_
  rw [nI_add]
  refine y_sld d_L_192 193 rfl (vp_in_nI (by omega) (by omega)) ?_
  rw [nI_clamp (by omega)]
  refine y_cV d_L_193 196 rfl mv_B_raw kl_L_20 (by decide) (cu + mc) (su + ms) rfl rfl (by omega) (by omega) hx r rfl rfl (Nat.le_of_ble_eq_true rfl) ?_
  rintro _ h1 ⟨v, rfl, ⟨fs2, ho⟩, r2⟩
  refine y_aload_n d_L_196 197 rfl rfl rfl ?_
  refine y_aload_n d_L_197 198 rfl rfl rfl ?_
  refine y_iload_n d_L_198 199 rfl rfl rfl ?_
  refine y_iconst (v := nI 1) d_L_199 200 rfl rfl ?_
  refine y_iadd d_L_200 201 rfl ?_
  rw [nI_add]
  refine y_sld d_L_201 202 rfl (vp_in_nI (by omega) (by omega)) ?_
  rw [nI_clamp (by omega)]
  refine y_i2l d_L_202 203 rfl rfl ?_
  refine y_bipush (v := nI 32) d_L_203 205 rfl rfl ?_
  refine y_lshl d_L_205 206 rfl rfl ?_
  refine y_aload_n d_L_206 207 rfl rfl rfl ?_
  refine y_iload_n d_L_207 208 rfl rfl rfl ?_
  refine y_iconst (v := nI 2) d_L_208 209 rfl rfl ?_
  refine y_iadd d_L_209 210 rfl ?_
  rw [nI_add]
  refine y_sld d_L_210 211 rfl (vp_in_nI (by omega) (by omega)) ?_
  rw [nI_clamp (by omega)]
  refine y_i2l d_L_211 212 rfl rfl ?_
  refine y_ldc2 d_L_212 215 rfl ct_L_18 ?_
  refine y_land d_L_215 216 rfl ?_
  refine y_lor d_L_216 217 rfl ?_
  refine y_aload_n d_L_217 218 rfl rfl rfl ?_
  refine y_iload_n d_L_218 219 rfl rfl rfl ?_
  refine y_iconst (v := nI 3) d_L_219 220 rfl rfl ?_
  refine y_iadd d_L_220 221 rfl ?_
  rw [nI_add]
  refine y_sld d_L_221 222 rfl (vp_in_nI (by omega) (by omega)) ?_
  rw [nI_clamp (by omega)]
  refine y_cV d_L_222 225 rfl mv_m_raw kl_L_24 (by decide) (cu + mc + 0) (su + ms + 0) rfl rfl (by omega) (by omega) ho r2 rfl rfl (Nat.le_of_ble_eq_true rfl) ?_
  rintro _ h2 ⟨rfl, inv⟩
  refine y_icmp_eq (tgt := 701) d_L_225 228 rfl rfl (fun _ => ?_) (fun e => absurd rfl e)
  refine y_inc3 (v := nI (j + 4)) d_L_701 704 rfl (nI_add j 4) rfl ?_
  refine y_goto (tgt := 18) d_L_704 rfl ?_
  exact K (P + u) h2 (cu + mc + 0) (su + ms + 0) inv ⟨by omega, by omega, by omega⟩
theorem law_drop (hi : INV D x o P h) (hj : j + 4 ≤ X.2.1) (hL : X.2.1 ≤ 2048) (hji : j = 4 * i) (hb : bdL i P cu su) (K : ∀ P' h' cu' su', INV D x o P' h' → bdL (i + 1) P' cu' su' → ZL X l D M_L 600000 7302250 (fun _ => True) h' cu' su' 18 [some (.ref X.1), some (.ref x), some (.ref o), some (.int (nI (j + 4)))] []) : ZL X l D M_L 600000 7302250 (fun _ => True) h cu su 230 [some (.ref X.1), some (.ref x), some (.ref o), some (.int (nI j))] [] := by
  obtain ⟨u, mc, ms, b0, b1, b2, ⟨fs, hx⟩, r⟩ := step_drop (l := l) hi
  obtain ⟨c1, c2, c3⟩ := hb
  refine y_aload_n d_L_230 231 rfl rfl rfl ?_
  refine y_cV d_L_231 234 rfl mv_B_drop kl_L_25 (by decide) (cu + mc) (su + ms) rfl rfl (by omega) (by omega) hx r rfl rfl (Nat.le_of_ble_eq_true rfl) ?_
  rintro _ h1 ⟨v, rfl, ⟨fs2, ho⟩, r2⟩
  refine y_aload_n d_L_234 235 rfl rfl rfl ?_
  refine y_cV d_L_235 238 rfl mv_m_drop kl_L_29 (by decide) (cu + mc + 0) (su + ms + 0) rfl rfl (by omega) (by omega) ho r2 rfl rfl (Nat.le_of_ble_eq_true rfl) ?_
  rintro _ h2 ⟨rfl, inv⟩
  refine y_icmp_eq (tgt := 701) d_L_238 241 rfl rfl (fun _ => ?_) (fun e => absurd rfl e)
  refine y_inc3 (v := nI (j + 4)) d_L_701 704 rfl (nI_add j 4) rfl ?_
  refine y_goto (tgt := 18) d_L_704 rfl ?_
  exact K (P + u) h2 (cu + mc + 0) (su + ms + 0) inv ⟨by omega, by omega, by omega⟩
theorem law_files (hi : INV D x o P h) (hj : j + 4 ≤ X.2.1) (hL : X.2.1 ≤ 2048) (hji : j = 4 * i) (hb : bdL i P cu su) (K : ∀ P' h' cu' su', INV D x o P' h' → bdL (i + 1) P' cu' su' → ZL X l D M_L 600000 7302250 (fun _ => True) h' cu' su' 18 [some (.ref X.1), some (.ref x), some (.ref o), some (.int (nI (j + 4)))] []) : ZL X l D M_L 600000 7302250 (fun _ => True) h cu su 243 [some (.ref X.1), some (.ref x), some (.ref o), some (.int (nI j))] [] := by
  obtain ⟨u, mc, ms, b0, b1, b2, ⟨fs, hx⟩, r⟩ := step_files (l := l) (X.2.2 (j + 1)) hi
  obtain ⟨c1, c2, c3⟩ := hb
  refine y_aload_n d_L_243 244 rfl rfl rfl ?_
  refine y_aload_n d_L_244 245 rfl rfl rfl ?_
  refine y_iload_n d_L_245 246 rfl rfl rfl ?_
  refine y_iconst (v := nI 1) d_L_246 247 rfl rfl ?_
  refine y_iadd d_L_247 248 rfl ?_
  rw [nI_add]
  refine y_sld d_L_248 249 rfl (vp_in_nI (by omega) (by omega)) ?_
  rw [nI_clamp (by omega)]
  refine y_cV d_L_249 252 rfl mv_B_files kl_L_30 (by decide) (cu + mc) (su + ms) rfl rfl (by omega) (by omega) hx r rfl rfl (Nat.le_of_ble_eq_true rfl) ?_
  rintro _ h1 ⟨v, rfl, ⟨fs2, ho⟩, r2⟩
  refine y_aload_n d_L_252 253 rfl rfl rfl ?_
  refine y_aload_n d_L_253 254 rfl rfl rfl ?_
  refine y_iload_n d_L_254 255 rfl rfl rfl ?_
  refine y_iconst (v := nI 1) d_L_255 256 rfl rfl ?_
  refine y_iadd d_L_256 257 rfl ?_
  rw [nI_add]
  refine y_sld d_L_257 258 rfl (vp_in_nI (by omega) (by omega)) ?_
  rw [nI_clamp (by omega)]
  refine y_cV d_L_258 261 rfl mv_m_files kl_L_34 (by decide) (cu + mc + 0) (su + ms + 0) rfl rfl (by omega) (by omega) ho r2 rfl rfl (Nat.le_of_ble_eq_true rfl) ?_
  rintro _ h2 ⟨rfl, inv⟩
  refine y_icmp_eq (tgt := 701) d_L_261 264 rfl rfl (fun _ => ?_) (fun e => absurd rfl e)
  refine y_inc3 (v := nI (j + 4)) d_L_701 704 rfl (nI_add j 4) rfl ?_
  refine y_goto (tgt := 18) d_L_704 rfl ?_
  exact K (P + u) h2 (cu + mc + 0) (su + ms + 0) inv ⟨by omega, by omega, by omega⟩
theorem law_put (hi : INV D x o P h) (hj : j + 4 ≤ X.2.1) (hL : X.2.1 ≤ 2048) (hji : j = 4 * i) (hb : bdL i P cu su) (K : ∀ P' h' cu' su', INV D x o P' h' → bdL (i + 1) P' cu' su' → ZL X l D M_L 600000 7302250 (fun _ => True) h' cu' su' 18 [some (.ref X.1), some (.ref x), some (.ref o), some (.int (nI (j + 4)))] []) : ZL X l D M_L 600000 7302250 (fun _ => True) h cu su 266 [some (.ref X.1), some (.ref x), some (.ref o), some (.int (nI j))] [] := by
  obtain ⟨u, mc, ms, b0, b1, b2, ⟨fs, hx⟩, r⟩ := step_put (l := l) (X.2.2 (j + 1)) hi
  obtain ⟨c1, c2, c3⟩ := hb
  refine y_aload_n d_L_266 267 rfl rfl rfl ?_
  refine y_aload_n d_L_267 268 rfl rfl rfl ?_
  refine y_iload_n d_L_268 269 rfl rfl rfl ?_
  refine y_iconst (v := nI 1) d_L_269 270 rfl rfl ?_
  refine y_iadd d_L_270 271 rfl ?_
  rw [nI_add]
  refine y_sld d_L_271 272 rfl (vp_in_nI (by omega) (by omega)) ?_
  rw [nI_clamp (by omega)]
  refine y_cV d_L_272 275 rfl mv_B_put kl_L_35 (by decide) (cu + mc) (su + ms) rfl rfl (by omega) (by omega) hx r rfl rfl (Nat.le_of_ble_eq_true rfl) ?_
  rintro _ h1 ⟨v, rfl, ⟨fs2, ho⟩, r2⟩
  refine y_aload_n d_L_275 276 rfl rfl rfl ?_
  refine y_aload_n d_L_276 277 rfl rfl rfl ?_
  refine y_iload_n d_L_277 278 rfl rfl rfl ?_
  refine y_iconst (v := nI 1) d_L_278 279 rfl rfl ?_
  refine y_iadd d_L_279 280 rfl ?_
  rw [nI_add]
  refine y_sld d_L_280 281 rfl (vp_in_nI (by omega) (by omega)) ?_
  rw [nI_clamp (by omega)]
  refine y_cV d_L_281 284 rfl mv_m_put kl_L_38 (by decide) (cu + mc + 0) (su + ms + 0) rfl rfl (by omega) (by omega) ho r2 rfl rfl (Nat.le_of_ble_eq_true rfl) ?_
  rintro _ h2 ⟨rfl, inv⟩
  refine y_icmp_eq (tgt := 701) d_L_284 287 rfl rfl (fun _ => ?_) (fun e => absurd rfl e)
  refine y_inc3 (v := nI (j + 4)) d_L_701 704 rfl (nI_add j 4) rfl ?_
  refine y_goto (tgt := 18) d_L_704 rfl ?_
  exact K (P + u) h2 (cu + mc + 0) (su + ms + 0) inv ⟨by omega, by omega, by omega⟩
theorem law_round (hi : INV D x o P h) (hj : j + 4 ≤ X.2.1) (hL : X.2.1 ≤ 2048) (hji : j = 4 * i) (hb : bdL i P cu su) (K : ∀ P' h' cu' su', INV D x o P' h' → bdL (i + 1) P' cu' su' → ZL X l D M_L 600000 7302250 (fun _ => True) h' cu' su' 18 [some (.ref X.1), some (.ref x), some (.ref o), some (.int (nI (j + 4)))] []) : ZL X l D M_L 600000 7302250 (fun _ => True) h cu su 289 [some (.ref X.1), some (.ref x), some (.ref o), some (.int (nI j))] [] := by
  obtain ⟨u, mc, ms, b0, b1, b2, ⟨fs, hx⟩, r⟩ := step_round (l := l) (X.2.2 (j + 1)) hi
  obtain ⟨c1, c2, c3⟩ := hb
  refine y_aload_n d_L_289 290 rfl rfl rfl ?_
  refine y_aload_n d_L_290 291 rfl rfl rfl ?_
  refine y_iload_n d_L_291 292 rfl rfl rfl ?_
  refine y_iconst (v := nI 1) d_L_292 293 rfl rfl ?_
  refine y_iadd d_L_293 294 rfl ?_
  rw [nI_add]
  refine y_sld d_L_294 295 rfl (vp_in_nI (by omega) (by omega)) ?_
  rw [nI_clamp (by omega)]
  refine y_cV d_L_295 298 rfl mv_B_round kl_L_39 (by decide) (cu + mc) (su + ms) rfl rfl (by omega) (by omega) hx r rfl rfl (Nat.le_of_ble_eq_true rfl) ?_
  rintro _ h1 ⟨v, rfl, ⟨fs2, ho⟩, r2⟩
  refine y_aload_n d_L_298 299 rfl rfl rfl ?_
  refine y_aload_n d_L_299 300 rfl rfl rfl ?_
  refine y_iload_n d_L_300 301 rfl rfl rfl ?_
  refine y_iconst (v := nI 1) d_L_301 302 rfl rfl ?_
  refine y_iadd d_L_302 303 rfl ?_
  rw [nI_add]
  refine y_sld d_L_303 304 rfl (vp_in_nI (by omega) (by omega)) ?_
  rw [nI_clamp (by omega)]
  refine y_cV d_L_304 307 rfl mv_m_round kl_L_42 (by decide) (cu + mc + 0) (su + ms + 0) rfl rfl (by omega) (by omega) ho r2 rfl rfl (Nat.le_of_ble_eq_true rfl) ?_
  rintro _ h2 ⟨rfl, inv⟩
  refine y_icmp_eq (tgt := 701) d_L_307 310 rfl rfl (fun _ => ?_) (fun e => absurd rfl e)
  refine y_inc3 (v := nI (j + 4)) d_L_701 704 rfl (nI_add j 4) rfl ?_
  refine y_goto (tgt := 18) d_L_704 rfl ?_
  exact K (P + u) h2 (cu + mc + 0) (su + ms + 0) inv ⟨by omega, by omega, by omega⟩
theorem law_held (hi : INV D x o P h) (hj : j + 4 ≤ X.2.1) (hL : X.2.1 ≤ 2048) (hji : j = 4 * i) (hb : bdL i P cu su) (K : ∀ P' h' cu' su', INV D x o P' h' → bdL (i + 1) P' cu' su' → ZL X l D M_L 600000 7302250 (fun _ => True) h' cu' su' 18 [some (.ref X.1), some (.ref x), some (.ref o), some (.int (nI (j + 4)))] []) : ZL X l D M_L 600000 7302250 (fun _ => True) h cu su 312 [some (.ref X.1), some (.ref x), some (.ref o), some (.int (nI j))] [] := by
  obtain ⟨u, mc, ms, b0, b1, b2, ⟨fs, hx⟩, r⟩ := step_held (l := l) (X.2.2 (j + 1)) hi
  obtain ⟨c1, c2, c3⟩ := hb
  refine y_aload_n d_L_312 313 rfl rfl rfl ?_
  refine y_aload_n d_L_313 314 rfl rfl rfl ?_
  refine y_iload_n d_L_314 315 rfl rfl rfl ?_
  refine y_iconst (v := nI 1) d_L_315 316 rfl rfl ?_
  refine y_iadd d_L_316 317 rfl ?_
  rw [nI_add]
  refine y_sld d_L_317 318 rfl (vp_in_nI (by omega) (by omega)) ?_
  rw [nI_clamp (by omega)]
  refine y_cV d_L_318 321 rfl mv_B_held kl_L_43 (by decide) (cu + mc) (su + ms) rfl rfl (by omega) (by omega) hx r rfl rfl (Nat.le_of_ble_eq_true rfl) ?_
  rintro _ h1 ⟨v, rfl, ⟨fs2, ho⟩, r2⟩
  refine y_aload_n d_L_321 322 rfl rfl rfl ?_
  refine y_aload_n d_L_322 323 rfl rfl rfl ?_
  refine y_iload_n d_L_323 324 rfl rfl rfl ?_
  refine y_iconst (v := nI 1) d_L_324 325 rfl rfl ?_
  refine y_iadd d_L_325 326 rfl ?_
  rw [nI_add]
  refine y_sld d_L_326 327 rfl (vp_in_nI (by omega) (by omega)) ?_
  rw [nI_clamp (by omega)]
  refine y_cV d_L_327 330 rfl mv_m_held kl_L_46 (by decide) (cu + mc + 0) (su + ms + 0) rfl rfl (by omega) (by omega) ho r2 rfl rfl (Nat.le_of_ble_eq_true rfl) ?_
  rintro _ h2 ⟨rfl, inv⟩
  refine y_icmp_eq (tgt := 701) d_L_330 333 rfl rfl (fun _ => ?_) (fun e => absurd rfl e)
  refine y_inc3 (v := nI (j + 4)) d_L_701 704 rfl (nI_add j 4) rfl ?_
  refine y_goto (tgt := 18) d_L_704 rfl ?_
  exact K (P + u) h2 (cu + mc + 0) (su + ms + 0) inv ⟨by omega, by omega, by omega⟩
theorem law_name (hi : INV D x o P h) (hj : j + 4 ≤ X.2.1) (hL : X.2.1 ≤ 2048) (hji : j = 4 * i) (hb : bdL i P cu su) (K : ∀ P' h' cu' su', INV D x o P' h' → bdL (i + 1) P' cu' su' → ZL X l D M_L 600000 7302250 (fun _ => True) h' cu' su' 18 [some (.ref X.1), some (.ref x), some (.ref o), some (.int (nI (j + 4)))] []) : ZL X l D M_L 600000 7302250 (fun _ => True) h cu su 335 [some (.ref X.1), some (.ref x), some (.ref o), some (.int (nI j))] [] := by
  obtain ⟨u, mc, ms, b0, b1, b2, ⟨fs, hx⟩, r⟩ := step_name (l := l) (X.2.2 (j + 1)) (X.2.2 (j + 2)) hi
  obtain ⟨c1, c2, c3⟩ := hb
  refine y_aload_n d_L_335 336 rfl rfl rfl ?_
  refine y_aload_n d_L_336 337 rfl rfl rfl ?_
  refine y_iload_n d_L_337 338 rfl rfl rfl ?_
  refine y_iconst (v := nI 1) d_L_338 339 rfl rfl ?_
  refine y_iadd d_L_339 340 rfl ?_
  rw [nI_add]
  refine y_sld d_L_340 341 rfl (vp_in_nI (by omega) (by omega)) ?_
  rw [nI_clamp (by omega)]
  refine y_aload_n d_L_341 342 rfl rfl rfl ?_
  refine y_iload_n d_L_342 343 rfl rfl rfl ?_
  refine y_iconst (v := nI 2) d_L_343 344 rfl rfl ?_
  refine y_iadd d_L_344 345 rfl ?_
  rw [nI_add]
  refine y_sld d_L_345 346 rfl (vp_in_nI (by omega) (by omega)) ?_
  rw [nI_clamp (by omega)]
  refine y_cV d_L_346 349 rfl mv_B_name kl_L_47 (by decide) (cu + mc) (su + ms) rfl rfl (by omega) (by omega) hx r rfl rfl (Nat.le_of_ble_eq_true rfl) ?_
  rintro _ h1 ⟨v, rfl, ⟨fs2, ho⟩, r2⟩
  refine y_aload_n d_L_349 350 rfl rfl rfl ?_
  refine y_aload_n d_L_350 351 rfl rfl rfl ?_
  refine y_iload_n d_L_351 352 rfl rfl rfl ?_
  refine y_iconst (v := nI 1) d_L_352 353 rfl rfl ?_
  refine y_iadd d_L_353 354 rfl ?_
  rw [nI_add]
  refine y_sld d_L_354 355 rfl (vp_in_nI (by omega) (by omega)) ?_
  rw [nI_clamp (by omega)]
  refine y_aload_n d_L_355 356 rfl rfl rfl ?_
  refine y_iload_n d_L_356 357 rfl rfl rfl ?_
  refine y_iconst (v := nI 2) d_L_357 358 rfl rfl ?_
  refine y_iadd d_L_358 359 rfl ?_
  rw [nI_add]
  refine y_sld d_L_359 360 rfl (vp_in_nI (by omega) (by omega)) ?_
  rw [nI_clamp (by omega)]
  refine y_cV d_L_360 363 rfl mv_m_name kl_L_51 (by decide) (cu + mc + 0) (su + ms + 0) rfl rfl (by omega) (by omega) ho r2 rfl rfl (Nat.le_of_ble_eq_true rfl) ?_
  rintro _ h2 ⟨rfl, inv⟩
  refine y_icmp_eq (tgt := 701) d_L_363 366 rfl rfl (fun _ => ?_) (fun e => absurd rfl e)
  refine y_inc3 (v := nI (j + 4)) d_L_701 704 rfl (nI_add j 4) rfl ?_
  refine y_goto (tgt := 18) d_L_704 rfl ?_
  exact K (P + u) h2 (cu + mc + 0) (su + ms + 0) inv ⟨by omega, by omega, by omega⟩
theorem law_octet (hi : INV D x o P h) (hj : j + 4 ≤ X.2.1) (hL : X.2.1 ≤ 2048) (hji : j = 4 * i) (hb : bdL i P cu su) (K : ∀ P' h' cu' su', INV D x o P' h' → bdL (i + 1) P' cu' su' → ZL X l D M_L 600000 7302250 (fun _ => True) h' cu' su' 18 [some (.ref X.1), some (.ref x), some (.ref o), some (.int (nI (j + 4)))] []) : ZL X l D M_L 600000 7302250 (fun _ => True) h cu su 368 [some (.ref X.1), some (.ref x), some (.ref o), some (.int (nI j))] [] := by
  obtain ⟨u, mc, ms, b0, b1, b2, ⟨fs, hx⟩, r⟩ := step_octet (l := l) (X.2.2 (j + 1)) (X.2.2 (j + 2)) (X.2.2 (j + 3)) hi
  obtain ⟨c1, c2, c3⟩ := hb
  refine y_aload_n d_L_368 369 rfl rfl rfl ?_
  refine y_aload_n d_L_369 370 rfl rfl rfl ?_
  refine y_iload_n d_L_370 371 rfl rfl rfl ?_
  refine y_iconst (v := nI 1) d_L_371 372 rfl rfl ?_
  refine y_iadd d_L_372 373 rfl ?_
  rw [nI_add]
  refine y_sld d_L_373 374 rfl (vp_in_nI (by omega) (by omega)) ?_
  rw [nI_clamp (by omega)]
  refine y_aload_n d_L_374 375 rfl rfl rfl ?_
  refine y_iload_n d_L_375 376 rfl rfl rfl ?_
  refine y_iconst (v := nI 2) d_L_376 377 rfl rfl ?_
  refine y_iadd d_L_377 378 rfl ?_
  rw [nI_add]
  refine y_sld d_L_378 379 rfl (vp_in_nI (by omega) (by omega)) ?_
  rw [nI_clamp (by omega)]
  refine y_aload_n d_L_379 380 rfl rfl rfl ?_
  refine y_iload_n d_L_380 381 rfl rfl rfl ?_
  refine y_iconst (v := nI 3) d_L_381 382 rfl rfl ?_
  refine y_iadd d_L_382 383 rfl ?_
  rw [nI_add]
  refine y_sld d_L_383 384 rfl (vp_in_nI (by omega) (by omega)) ?_
  rw [nI_clamp (by omega)]
  refine y_cV d_L_384 387 rfl mv_B_octet kl_L_52 (by decide) (cu + mc) (su + ms) rfl rfl (by omega) (by omega) hx r rfl rfl (Nat.le_of_ble_eq_true rfl) ?_
  rintro _ h1 ⟨v, rfl, ⟨fs2, ho⟩, r2⟩
  refine y_aload_n d_L_387 388 rfl rfl rfl ?_
  refine y_aload_n d_L_388 389 rfl rfl rfl ?_
  refine y_iload_n d_L_389 390 rfl rfl rfl ?_
  refine y_iconst (v := nI 1) d_L_390 391 rfl rfl ?_
  refine y_iadd d_L_391 392 rfl ?_
  rw [nI_add]
  refine y_sld d_L_392 393 rfl (vp_in_nI (by omega) (by omega)) ?_
  rw [nI_clamp (by omega)]
  refine y_aload_n d_L_393 394 rfl rfl rfl ?_
  refine y_iload_n d_L_394 395 rfl rfl rfl ?_
  refine y_iconst (v := nI 2) d_L_395 396 rfl rfl ?_
  refine y_iadd d_L_396 397 rfl ?_
  rw [nI_add]
  refine y_sld d_L_397 398 rfl (vp_in_nI (by omega) (by omega)) ?_
  rw [nI_clamp (by omega)]
  refine y_aload_n d_L_398 399 rfl rfl rfl ?_
  refine y_iload_n d_L_399 400 rfl rfl rfl ?_
  refine y_iconst (v := nI 3) d_L_400 401 rfl rfl ?_
  refine y_iadd d_L_401 402 rfl ?_
  rw [nI_add]
  refine y_sld d_L_402 403 rfl (vp_in_nI (by omega) (by omega)) ?_
  rw [nI_clamp (by omega)]
  refine y_cV d_L_403 406 rfl mv_m_octet kl_L_55 (by decide) (cu + mc + 0) (su + ms + 0) rfl rfl (by omega) (by omega) ho r2 rfl rfl (Nat.le_of_ble_eq_true rfl) ?_
  rintro _ h2 ⟨rfl, inv⟩
  refine y_icmp_eq (tgt := 701) d_L_406 409 rfl rfl (fun _ => ?_) (fun e => absurd rfl e)
  refine y_inc3 (v := nI (j + 4)) d_L_701 704 rfl (nI_add j 4) rfl ?_
  refine y_goto (tgt := 18) d_L_704 rfl ?_
  exact K (P + u) h2 (cu + mc + 0) (su + ms + 0) inv ⟨by omega, by omega, by omega⟩
theorem law_kind (hi : INV D x o P h) (hj : j + 4 ≤ X.2.1) (hL : X.2.1 ≤ 2048) (hji : j = 4 * i) (hb : bdL i P cu su) (K : ∀ P' h' cu' su', INV D x o P' h' → bdL (i + 1) P' cu' su' → ZL X l D M_L 600000 7302250 (fun _ => True) h' cu' su' 18 [some (.ref X.1), some (.ref x), some (.ref o), some (.int (nI (j + 4)))] []) : ZL X l D M_L 600000 7302250 (fun _ => True) h cu su 411 [some (.ref X.1), some (.ref x), some (.ref o), some (.int (nI j))] [] := by
  obtain ⟨u, mc, ms, b0, b1, b2, ⟨fs, hx⟩, r⟩ := step_kind (l := l) (X.2.2 (j + 1)) (X.2.2 (j + 2)) hi
  obtain ⟨c1, c2, c3⟩ := hb
  refine y_aload_n d_L_411 412 rfl rfl rfl ?_
  refine y_aload_n d_L_412 413 rfl rfl rfl ?_
  refine y_iload_n d_L_413 414 rfl rfl rfl ?_
  refine y_iconst (v := nI 1) d_L_414 415 rfl rfl ?_
  refine y_iadd d_L_415 416 rfl ?_
  rw [nI_add]
  refine y_sld d_L_416 417 rfl (vp_in_nI (by omega) (by omega)) ?_
  rw [nI_clamp (by omega)]
  refine y_aload_n d_L_417 418 rfl rfl rfl ?_
  refine y_iload_n d_L_418 419 rfl rfl rfl ?_
  refine y_iconst (v := nI 2) d_L_419 420 rfl rfl ?_
  refine y_iadd d_L_420 421 rfl ?_
  rw [nI_add]
  refine y_sld d_L_421 422 rfl (vp_in_nI (by omega) (by omega)) ?_
  rw [nI_clamp (by omega)]
  refine y_cV d_L_422 425 rfl mv_B_kind kl_L_56 (by decide) (cu + mc) (su + ms) rfl rfl (by omega) (by omega) hx r rfl rfl (Nat.le_of_ble_eq_true rfl) ?_
  rintro _ h1 ⟨v, rfl, ⟨fs2, ho⟩, r2⟩
  refine y_aload_n d_L_425 426 rfl rfl rfl ?_
  refine y_aload_n d_L_426 427 rfl rfl rfl ?_
  refine y_iload_n d_L_427 428 rfl rfl rfl ?_
  refine y_iconst (v := nI 1) d_L_428 429 rfl rfl ?_
  refine y_iadd d_L_429 430 rfl ?_
  rw [nI_add]
  refine y_sld d_L_430 431 rfl (vp_in_nI (by omega) (by omega)) ?_
  rw [nI_clamp (by omega)]
  refine y_aload_n d_L_431 432 rfl rfl rfl ?_
  refine y_iload_n d_L_432 433 rfl rfl rfl ?_
  refine y_iconst (v := nI 2) d_L_433 434 rfl rfl ?_
  refine y_iadd d_L_434 435 rfl ?_
  rw [nI_add]
  refine y_sld d_L_435 436 rfl (vp_in_nI (by omega) (by omega)) ?_
  rw [nI_clamp (by omega)]
  refine y_cV d_L_436 439 rfl mv_m_kind kl_L_59 (by decide) (cu + mc + 0) (su + ms + 0) rfl rfl (by omega) (by omega) ho r2 rfl rfl (Nat.le_of_ble_eq_true rfl) ?_
  rintro _ h2 ⟨rfl, inv⟩
  refine y_icmp_eq (tgt := 701) d_L_439 442 rfl rfl (fun _ => ?_) (fun e => absurd rfl e)
  refine y_inc3 (v := nI (j + 4)) d_L_701 704 rfl (nI_add j 4) rfl ?_
  refine y_goto (tgt := 18) d_L_704 rfl ?_
  exact K (P + u) h2 (cu + mc + 0) (su + ms + 0) inv ⟨by omega, by omega, by omega⟩
theorem law_wanted (hi : INV D x o P h) (hj : j + 4 ≤ X.2.1) (hL : X.2.1 ≤ 2048) (hji : j = 4 * i) (hb : bdL i P cu su) (K : ∀ P' h' cu' su', INV D x o P' h' → bdL (i + 1) P' cu' su' → ZL X l D M_L 600000 7302250 (fun _ => True) h' cu' su' 18 [some (.ref X.1), some (.ref x), some (.ref o), some (.int (nI (j + 4)))] []) : ZL X l D M_L 600000 7302250 (fun _ => True) h cu su 444 [some (.ref X.1), some (.ref x), some (.ref o), some (.int (nI j))] [] := by
  obtain ⟨u, mc, ms, b0, b1, b2, ⟨fs, hx⟩, r⟩ := step_wanted (l := l) (X.2.2 (j + 1)) hi
  obtain ⟨c1, c2, c3⟩ := hb
  refine y_aload_n d_L_444 445 rfl rfl rfl ?_
  refine y_aload_n d_L_445 446 rfl rfl rfl ?_
  refine y_iload_n d_L_446 447 rfl rfl rfl ?_
  refine y_iconst (v := nI 1) d_L_447 448 rfl rfl ?_
  refine y_iadd d_L_448 449 rfl ?_
  rw [nI_add]
  refine y_sld d_L_449 450 rfl (vp_in_nI (by omega) (by omega)) ?_
  rw [nI_clamp (by omega)]
  refine y_cV d_L_450 453 rfl mv_B_wanted kl_L_60 (by decide) (cu + mc) (su + ms) rfl rfl (by omega) (by omega) hx r rfl rfl (Nat.le_of_ble_eq_true rfl) ?_
  rintro _ h1 ⟨v, rfl, ⟨fs2, ho⟩, r2⟩
  refine y_aload_n d_L_453 454 rfl rfl rfl ?_
  refine y_aload_n d_L_454 455 rfl rfl rfl ?_
  refine y_iload_n d_L_455 456 rfl rfl rfl ?_
  refine y_iconst (v := nI 1) d_L_456 457 rfl rfl ?_
  refine y_iadd d_L_457 458 rfl ?_
  rw [nI_add]
  refine y_sld d_L_458 459 rfl (vp_in_nI (by omega) (by omega)) ?_
  rw [nI_clamp (by omega)]
  refine y_cV d_L_459 462 rfl mv_m_wanted kl_L_63 (by decide) (cu + mc + 0) (su + ms + 0) rfl rfl (by omega) (by omega) ho r2 rfl rfl (Nat.le_of_ble_eq_true rfl) ?_
  rintro _ h2 ⟨rfl, inv⟩
  refine y_icmp_eq (tgt := 701) d_L_462 465 rfl rfl (fun _ => ?_) (fun e => absurd rfl e)
  refine y_inc3 (v := nI (j + 4)) d_L_701 704 rfl (nI_add j 4) rfl ?_
  refine y_goto (tgt := 18) d_L_704 rfl ?_
  exact K (P + u) h2 (cu + mc + 0) (su + ms + 0) inv ⟨by omega, by omega, by omega⟩
theorem law_wants (hi : INV D x o P h) (hj : j + 4 ≤ X.2.1) (hL : X.2.1 ≤ 2048) (hji : j = 4 * i) (hb : bdL i P cu su) (K : ∀ P' h' cu' su', INV D x o P' h' → bdL (i + 1) P' cu' su' → ZL X l D M_L 600000 7302250 (fun _ => True) h' cu' su' 18 [some (.ref X.1), some (.ref x), some (.ref o), some (.int (nI (j + 4)))] []) : ZL X l D M_L 600000 7302250 (fun _ => True) h cu su 467 [some (.ref X.1), some (.ref x), some (.ref o), some (.int (nI j))] [] := by
  obtain ⟨u, mc, ms, b0, b1, b2, ⟨fs, hx⟩, r⟩ := step_wants (l := l) (X.2.2 (j + 1)) (X.2.2 (j + 2)) hi
  obtain ⟨c1, c2, c3⟩ := hb
  refine y_aload_n d_L_467 468 rfl rfl rfl ?_
  refine y_aload_n d_L_468 469 rfl rfl rfl ?_
  refine y_iload_n d_L_469 470 rfl rfl rfl ?_
  refine y_iconst (v := nI 1) d_L_470 471 rfl rfl ?_
  refine y_iadd d_L_471 472 rfl ?_
  rw [nI_add]
  refine y_sld d_L_472 473 rfl (vp_in_nI (by omega) (by omega)) ?_
  rw [nI_clamp (by omega)]
  refine y_aload_n d_L_473 474 rfl rfl rfl ?_
  refine y_iload_n d_L_474 475 rfl rfl rfl ?_
  refine y_iconst (v := nI 2) d_L_475 476 rfl rfl ?_
  refine y_iadd d_L_476 477 rfl ?_
  rw [nI_add]
  refine y_sld d_L_477 478 rfl (vp_in_nI (by omega) (by omega)) ?_
  rw [nI_clamp (by omega)]
  refine y_cV d_L_478 481 rfl mv_B_wants kl_L_64 (by decide) (cu + mc) (su + ms) rfl rfl (by omega) (by omega) hx r rfl rfl (Nat.le_of_ble_eq_true rfl) ?_
  rintro _ h1 ⟨v, rfl, ⟨fs2, ho⟩, r2⟩
  refine y_aload_n d_L_481 482 rfl rfl rfl ?_
  refine y_aload_n d_L_482 483 rfl rfl rfl ?_
  refine y_iload_n d_L_483 484 rfl rfl rfl ?_
  refine y_iconst (v := nI 1) d_L_484 485 rfl rfl ?_
  refine y_iadd d_L_485 486 rfl ?_
  rw [nI_add]
  refine y_sld d_L_486 487 rfl (vp_in_nI (by omega) (by omega)) ?_
  rw [nI_clamp (by omega)]
  refine y_aload_n d_L_487 488 rfl rfl rfl ?_
  refine y_iload_n d_L_488 489 rfl rfl rfl ?_
  refine y_iconst (v := nI 2) d_L_489 490 rfl rfl ?_
  refine y_iadd d_L_490 491 rfl ?_
  rw [nI_add]
  refine y_sld d_L_491 492 rfl (vp_in_nI (by omega) (by omega)) ?_
  rw [nI_clamp (by omega)]
  refine y_cV d_L_492 495 rfl mv_m_wants kl_L_68 (by decide) (cu + mc + 0) (su + ms + 0) rfl rfl (by omega) (by omega) ho r2 rfl rfl (Nat.le_of_ble_eq_true rfl) ?_
  rintro _ h2 ⟨rfl, inv⟩
  refine y_icmp_eq (tgt := 701) d_L_495 498 rfl rfl (fun _ => ?_) (fun e => absurd rfl e)
  refine y_inc3 (v := nI (j + 4)) d_L_701 704 rfl (nI_add j 4) rfl ?_
  refine y_goto (tgt := 18) d_L_704 rfl ?_
  exact K (P + u) h2 (cu + mc + 0) (su + ms + 0) inv ⟨by omega, by omega, by omega⟩
theorem law_checkIns (hi : INV D x o P h) (hj : j + 4 ≤ X.2.1) (hL : X.2.1 ≤ 2048) (hji : j = 4 * i) (hb : bdL i P cu su) (K : ∀ P' h' cu' su', INV D x o P' h' → bdL (i + 1) P' cu' su' → ZL X l D M_L 600000 7302250 (fun _ => True) h' cu' su' 18 [some (.ref X.1), some (.ref x), some (.ref o), some (.int (nI (j + 4)))] []) : ZL X l D M_L 600000 7302250 (fun _ => True) h cu su 500 [some (.ref X.1), some (.ref x), some (.ref o), some (.int (nI j))] [] := by
  obtain ⟨u, mc, ms, b0, b1, b2, ⟨fs, hx⟩, r⟩ := step_checkIns (l := l) (X.2.2 (j + 1)) hi
  obtain ⟨c1, c2, c3⟩ := hb
  refine y_aload_n d_L_500 501 rfl rfl rfl ?_
  refine y_aload_n d_L_501 502 rfl rfl rfl ?_
  refine y_iload_n d_L_502 503 rfl rfl rfl ?_
  refine y_iconst (v := nI 1) d_L_503 504 rfl rfl ?_
  refine y_iadd d_L_504 505 rfl ?_
  rw [nI_add]
  refine y_sld d_L_505 506 rfl (vp_in_nI (by omega) (by omega)) ?_
  rw [nI_clamp (by omega)]
  refine y_cV d_L_506 509 rfl mv_B_checkIns kl_L_69 (by decide) (cu + mc) (su + ms) rfl rfl (by omega) (by omega) hx r rfl rfl (Nat.le_of_ble_eq_true rfl) ?_
  rintro _ h1 ⟨v, rfl, ⟨fs2, ho⟩, r2⟩
  refine y_aload_n d_L_509 510 rfl rfl rfl ?_
  refine y_aload_n d_L_510 511 rfl rfl rfl ?_
  refine y_iload_n d_L_511 512 rfl rfl rfl ?_
  refine y_iconst (v := nI 1) d_L_512 513 rfl rfl ?_
  refine y_iadd d_L_513 514 rfl ?_
  rw [nI_add]
  refine y_sld d_L_514 515 rfl (vp_in_nI (by omega) (by omega)) ?_
  rw [nI_clamp (by omega)]
  refine y_cV d_L_515 518 rfl mv_m_checkIns kl_L_72 (by decide) (cu + mc + 0) (su + ms + 0) rfl rfl (by omega) (by omega) ho r2 rfl rfl (Nat.le_of_ble_eq_true rfl) ?_
  rintro _ h2 ⟨rfl, inv⟩
  refine y_icmp_eq (tgt := 701) d_L_518 521 rfl rfl (fun _ => ?_) (fun e => absurd rfl e)
  refine y_inc3 (v := nI (j + 4)) d_L_701 704 rfl (nI_add j 4) rfl ?_
  refine y_goto (tgt := 18) d_L_704 rfl ?_
  exact K (P + u) h2 (cu + mc + 0) (su + ms + 0) inv ⟨by omega, by omega, by omega⟩
theorem law_timeline (hi : INV D x o P h) (hj : j + 4 ≤ X.2.1) (hL : X.2.1 ≤ 2048) (hji : j = 4 * i) (hb : bdL i P cu su) (K : ∀ P' h' cu' su', INV D x o P' h' → bdL (i + 1) P' cu' su' → ZL X l D M_L 600000 7302250 (fun _ => True) h' cu' su' 18 [some (.ref X.1), some (.ref x), some (.ref o), some (.int (nI (j + 4)))] []) : ZL X l D M_L 600000 7302250 (fun _ => True) h cu su 523 [some (.ref X.1), some (.ref x), some (.ref o), some (.int (nI j))] [] := by
  obtain ⟨u, mc, ms, b0, b1, b2, ⟨fs, hx⟩, r⟩ := step_timeline (l := l) (X.2.2 (j + 1)) (X.2.2 (j + 2)) hi
  obtain ⟨c1, c2, c3⟩ := hb
  refine y_aload_n d_L_523 524 rfl rfl rfl ?_
  refine y_aload_n d_L_524 525 rfl rfl rfl ?_
  refine y_iload_n d_L_525 526 rfl rfl rfl ?_
  refine y_iconst (v := nI 1) d_L_526 527 rfl rfl ?_
  refine y_iadd d_L_527 528 rfl ?_
  rw [nI_add]
  refine y_sld d_L_528 529 rfl (vp_in_nI (by omega) (by omega)) ?_
  rw [nI_clamp (by omega)]
  refine y_aload_n d_L_529 530 rfl rfl rfl ?_
  refine y_iload_n d_L_530 531 rfl rfl rfl ?_
  refine y_iconst (v := nI 2) d_L_531 532 rfl rfl ?_
  refine y_iadd d_L_532 533 rfl ?_
  rw [nI_add]
  refine y_sld d_L_533 534 rfl (vp_in_nI (by omega) (by omega)) ?_
  rw [nI_clamp (by omega)]
  refine y_cV d_L_534 537 rfl mv_B_timeline kl_L_73 (by decide) (cu + mc) (su + ms) rfl rfl (by omega) (by omega) hx r rfl rfl (Nat.le_of_ble_eq_true rfl) ?_
  rintro _ h1 ⟨v, rfl, ⟨fs2, ho⟩, r2⟩
  refine y_aload_n d_L_537 538 rfl rfl rfl ?_
  refine y_aload_n d_L_538 539 rfl rfl rfl ?_
  refine y_iload_n d_L_539 540 rfl rfl rfl ?_
  refine y_iconst (v := nI 1) d_L_540 541 rfl rfl ?_
  refine y_iadd d_L_541 542 rfl ?_
  rw [nI_add]
  refine y_sld d_L_542 543 rfl (vp_in_nI (by omega) (by omega)) ?_
  rw [nI_clamp (by omega)]
  refine y_aload_n d_L_543 544 rfl rfl rfl ?_
  refine y_iload_n d_L_544 545 rfl rfl rfl ?_
  refine y_iconst (v := nI 2) d_L_545 546 rfl rfl ?_
  refine y_iadd d_L_546 547 rfl ?_
  rw [nI_add]
  refine y_sld d_L_547 548 rfl (vp_in_nI (by omega) (by omega)) ?_
  rw [nI_clamp (by omega)]
  refine y_cV d_L_548 551 rfl mv_m_timeline kl_L_76 (by decide) (cu + mc + 0) (su + ms + 0) rfl rfl (by omega) (by omega) ho r2 rfl rfl (Nat.le_of_ble_eq_true rfl) ?_
  rintro _ h2 ⟨rfl, inv⟩
  refine y_icmp_eq (tgt := 701) d_L_551 554 rfl rfl (fun _ => ?_) (fun e => absurd rfl e)
  refine y_inc3 (v := nI (j + 4)) d_L_701 704 rfl (nI_add j 4) rfl ?_
  refine y_goto (tgt := 18) d_L_704 rfl ?_
  exact K (P + u) h2 (cu + mc + 0) (su + ms + 0) inv ⟨by omega, by omega, by omega⟩
theorem law_children (hi : INV D x o P h) (hj : j + 4 ≤ X.2.1) (hL : X.2.1 ≤ 2048) (hji : j = 4 * i) (hb : bdL i P cu su) (K : ∀ P' h' cu' su', INV D x o P' h' → bdL (i + 1) P' cu' su' → ZL X l D M_L 600000 7302250 (fun _ => True) h' cu' su' 18 [some (.ref X.1), some (.ref x), some (.ref o), some (.int (nI (j + 4)))] []) : ZL X l D M_L 600000 7302250 (fun _ => True) h cu su 556 [some (.ref X.1), some (.ref x), some (.ref o), some (.int (nI j))] [] := by
  obtain ⟨u, mc, ms, b0, b1, b2, ⟨fs, hx⟩, r⟩ := step_children (l := l) (X.2.2 (j + 1)) (X.2.2 (j + 2)) hi
  obtain ⟨c1, c2, c3⟩ := hb
  refine y_aload_n d_L_556 557 rfl rfl rfl ?_
  refine y_aload_n d_L_557 558 rfl rfl rfl ?_
  refine y_iload_n d_L_558 559 rfl rfl rfl ?_
  refine y_iconst (v := nI 1) d_L_559 560 rfl rfl ?_
  refine y_iadd d_L_560 561 rfl ?_
  rw [nI_add]
  refine y_sld d_L_561 562 rfl (vp_in_nI (by omega) (by omega)) ?_
  rw [nI_clamp (by omega)]
  refine y_aload_n d_L_562 563 rfl rfl rfl ?_
  refine y_iload_n d_L_563 564 rfl rfl rfl ?_
  refine y_iconst (v := nI 2) d_L_564 565 rfl rfl ?_
  refine y_iadd d_L_565 566 rfl ?_
  rw [nI_add]
  refine y_sld d_L_566 567 rfl (vp_in_nI (by omega) (by omega)) ?_
  rw [nI_clamp (by omega)]
  refine y_cV d_L_567 570 rfl mv_B_children kl_L_77 (by decide) (cu + mc) (su + ms) rfl rfl (by omega) (by omega) hx r rfl rfl (Nat.le_of_ble_eq_true rfl) ?_
  rintro _ h1 ⟨v, rfl, ⟨fs2, ho⟩, r2⟩
  refine y_aload_n d_L_570 571 rfl rfl rfl ?_
  refine y_aload_n d_L_571 572 rfl rfl rfl ?_
  refine y_iload_n d_L_572 573 rfl rfl rfl ?_
  refine y_iconst (v := nI 1) d_L_573 574 rfl rfl ?_
  refine y_iadd d_L_574 575 rfl ?_
  rw [nI_add]
  refine y_sld d_L_575 576 rfl (vp_in_nI (by omega) (by omega)) ?_
  rw [nI_clamp (by omega)]
  refine y_aload_n d_L_576 577 rfl rfl rfl ?_
  refine y_iload_n d_L_577 578 rfl rfl rfl ?_
  refine y_iconst (v := nI 2) d_L_578 579 rfl rfl ?_
  refine y_iadd d_L_579 580 rfl ?_
  rw [nI_add]
  refine y_sld d_L_580 581 rfl (vp_in_nI (by omega) (by omega)) ?_
  rw [nI_clamp (by omega)]
  refine y_cV d_L_581 584 rfl mv_m_children kl_L_80 (by decide) (cu + mc + 0) (su + ms + 0) rfl rfl (by omega) (by omega) ho r2 rfl rfl (Nat.le_of_ble_eq_true rfl) ?_
  rintro _ h2 ⟨rfl, inv⟩
  refine y_icmp_eq (tgt := 701) d_L_584 587 rfl rfl (fun _ => ?_) (fun e => absurd rfl e)
  refine y_inc3 (v := nI (j + 4)) d_L_701 704 rfl (nI_add j 4) rfl ?_
  refine y_goto (tgt := 18) d_L_704 rfl ?_
  exact K (P + u) h2 (cu + mc + 0) (su + ms + 0) inv ⟨by omega, by omega, by omega⟩
theorem law_leaves (hi : INV D x o P h) (hj : j + 4 ≤ X.2.1) (hL : X.2.1 ≤ 2048) (hji : j = 4 * i) (hb : bdL i P cu su) (K : ∀ P' h' cu' su', INV D x o P' h' → bdL (i + 1) P' cu' su' → ZL X l D M_L 600000 7302250 (fun _ => True) h' cu' su' 18 [some (.ref X.1), some (.ref x), some (.ref o), some (.int (nI (j + 4)))] []) : ZL X l D M_L 600000 7302250 (fun _ => True) h cu su 589 [some (.ref X.1), some (.ref x), some (.ref o), some (.int (nI j))] [] := by
  obtain ⟨u, mc, ms, b0, b1, b2, ⟨fs, hx⟩, r⟩ := step_leaves (l := l) (X.2.2 (j + 1)) hi
  obtain ⟨c1, c2, c3⟩ := hb
  refine y_aload_n d_L_589 590 rfl rfl rfl ?_
  refine y_aload_n d_L_590 591 rfl rfl rfl ?_
  refine y_iload_n d_L_591 592 rfl rfl rfl ?_
  refine y_iconst (v := nI 1) d_L_592 593 rfl rfl ?_
  refine y_iadd d_L_593 594 rfl ?_
  rw [nI_add]
  refine y_sld d_L_594 595 rfl (vp_in_nI (by omega) (by omega)) ?_
  rw [nI_clamp (by omega)]
  refine y_cV d_L_595 598 rfl mv_B_leaves kl_L_81 (by decide) (cu + mc) (su + ms) rfl rfl (by omega) (by omega) hx r rfl rfl (Nat.le_of_ble_eq_true rfl) ?_
  rintro _ h1 ⟨v, rfl, ⟨fs2, ho⟩, r2⟩
  refine y_aload_n d_L_598 599 rfl rfl rfl ?_
  refine y_aload_n d_L_599 600 rfl rfl rfl ?_
  refine y_iload_n d_L_600 601 rfl rfl rfl ?_
  refine y_iconst (v := nI 1) d_L_601 602 rfl rfl ?_
  refine y_iadd d_L_602 603 rfl ?_
  rw [nI_add]
  refine y_sld d_L_603 604 rfl (vp_in_nI (by omega) (by omega)) ?_
  rw [nI_clamp (by omega)]
  refine y_cV d_L_604 607 rfl mv_m_leaves kl_L_84 (by decide) (cu + mc + 0) (su + ms + 0) rfl rfl (by omega) (by omega) ho r2 rfl rfl (Nat.le_of_ble_eq_true rfl) ?_
  rintro _ h2 ⟨rfl, inv⟩
  refine y_icmp_eq (tgt := 701) d_L_607 610 rfl rfl (fun _ => ?_) (fun e => absurd rfl e)
  refine y_inc3 (v := nI (j + 4)) d_L_701 704 rfl (nI_add j 4) rfl ?_
  refine y_goto (tgt := 18) d_L_704 rfl ?_
  exact K (P + u) h2 (cu + mc + 0) (su + ms + 0) inv ⟨by omega, by omega, by omega⟩
theorem law_tag (hi : INV D x o P h) (hj : j + 4 ≤ X.2.1) (hL : X.2.1 ≤ 2048) (hji : j = 4 * i) (hb : bdL i P cu su) (K : ∀ P' h' cu' su', INV D x o P' h' → bdL (i + 1) P' cu' su' → ZL X l D M_L 600000 7302250 (fun _ => True) h' cu' su' 18 [some (.ref X.1), some (.ref x), some (.ref o), some (.int (nI (j + 4)))] []) : ZL X l D M_L 600000 7302250 (fun _ => True) h cu su 612 [some (.ref X.1), some (.ref x), some (.ref o), some (.int (nI j))] [] := by
  obtain ⟨u, mc, ms, b0, b1, b2, ⟨fs, hx⟩, r⟩ := step_tag (l := l) (X.2.2 (j + 1)) (X.2.2 (j + 2)) (X.2.2 (j + 3)) hi
  obtain ⟨c1, c2, c3⟩ := hb
  refine y_aload_n d_L_612 613 rfl rfl rfl ?_
  refine y_aload_n d_L_613 614 rfl rfl rfl ?_
  refine y_iload_n d_L_614 615 rfl rfl rfl ?_
  refine y_iconst (v := nI 1) d_L_615 616 rfl rfl ?_
  refine y_iadd d_L_616 617 rfl ?_
  rw [nI_add]
  refine y_sld d_L_617 618 rfl (vp_in_nI (by omega) (by omega)) ?_
  rw [nI_clamp (by omega)]
  refine y_aload_n d_L_618 619 rfl rfl rfl ?_
  refine y_iload_n d_L_619 620 rfl rfl rfl ?_
  refine y_iconst (v := nI 2) d_L_620 621 rfl rfl ?_
  refine y_iadd d_L_621 622 rfl ?_
  rw [nI_add]
  refine y_sld d_L_622 623 rfl (vp_in_nI (by omega) (by omega)) ?_
  rw [nI_clamp (by omega)]
  refine y_aload_n d_L_623 624 rfl rfl rfl ?_
  refine y_iload_n d_L_624 625 rfl rfl rfl ?_
  refine y_iconst (v := nI 3) d_L_625 626 rfl rfl ?_
  refine y_iadd d_L_626 627 rfl ?_
  rw [nI_add]
  refine y_sld d_L_627 628 rfl (vp_in_nI (by omega) (by omega)) ?_
  rw [nI_clamp (by omega)]
  refine y_cV d_L_628 631 rfl mv_B_tag kl_L_85 (by decide) (cu + mc) (su + ms) rfl rfl (by omega) (by omega) hx r rfl rfl (Nat.le_of_ble_eq_true rfl) ?_
  rintro _ h1 ⟨v, rfl, ⟨fs2, ho⟩, r2⟩
  refine y_aload_n d_L_631 632 rfl rfl rfl ?_
  refine y_aload_n d_L_632 633 rfl rfl rfl ?_
  refine y_iload_n d_L_633 634 rfl rfl rfl ?_
  refine y_iconst (v := nI 1) d_L_634 635 rfl rfl ?_
  refine y_iadd d_L_635 636 rfl ?_
  rw [nI_add]
  refine y_sld d_L_636 637 rfl (vp_in_nI (by omega) (by omega)) ?_
  rw [nI_clamp (by omega)]
  refine y_aload_n d_L_637 638 rfl rfl rfl ?_
  refine y_iload_n d_L_638 639 rfl rfl rfl ?_
  refine y_iconst (v := nI 2) d_L_639 640 rfl rfl ?_
  refine y_iadd d_L_640 641 rfl ?_
  rw [nI_add]
  refine y_sld d_L_641 642 rfl (vp_in_nI (by omega) (by omega)) ?_
  rw [nI_clamp (by omega)]
  refine y_aload_n d_L_642 643 rfl rfl rfl ?_
  refine y_iload_n d_L_643 644 rfl rfl rfl ?_
  refine y_iconst (v := nI 3) d_L_644 645 rfl rfl ?_
  refine y_iadd d_L_645 646 rfl ?_
  rw [nI_add]
  refine y_sld d_L_646 647 rfl (vp_in_nI (by omega) (by omega)) ?_
  rw [nI_clamp (by omega)]
  refine y_cV d_L_647 650 rfl mv_m_tag kl_L_88 (by decide) (cu + mc + 0) (su + ms + 0) rfl rfl (by omega) (by omega) ho r2 rfl rfl (Nat.le_of_ble_eq_true rfl) ?_
  rintro _ h2 ⟨rfl, inv⟩
  refine y_icmp_eq (tgt := 701) d_L_650 653 rfl rfl (fun _ => ?_) (fun e => absurd rfl e)
  refine y_inc3 (v := nI (j + 4)) d_L_701 704 rfl (nI_add j 4) rfl ?_
  refine y_goto (tgt := 18) d_L_704 rfl ?_
  exact K (P + u) h2 (cu + mc + 0) (su + ms + 0) inv ⟨by omega, by omega, by omega⟩
theorem law_loose (hi : INV D x o P h) (hj : j + 4 ≤ X.2.1) (hL : X.2.1 ≤ 2048) (hji : j = 4 * i) (hb : bdL i P cu su) (K : ∀ P' h' cu' su', INV D x o P' h' → bdL (i + 1) P' cu' su' → ZL X l D M_L 600000 7302250 (fun _ => True) h' cu' su' 18 [some (.ref X.1), some (.ref x), some (.ref o), some (.int (nI (j + 4)))] []) : ZL X l D M_L 600000 7302250 (fun _ => True) h cu su 655 [some (.ref X.1), some (.ref x), some (.ref o), some (.int (nI j))] [] := by
  obtain ⟨u, mc, ms, b0, b1, b2, ⟨fs, hx⟩, r⟩ := step_loose (l := l) (X.2.2 (j + 1)) hi
  obtain ⟨c1, c2, c3⟩ := hb
  refine y_aload_n d_L_655 656 rfl rfl rfl ?_
  refine y_aload_n d_L_656 657 rfl rfl rfl ?_
  refine y_iload_n d_L_657 658 rfl rfl rfl ?_
  refine y_iconst (v := nI 1) d_L_658 659 rfl rfl ?_
  refine y_iadd d_L_659 660 rfl ?_
  rw [nI_add]
  refine y_sld d_L_660 661 rfl (vp_in_nI (by omega) (by omega)) ?_
  rw [nI_clamp (by omega)]
  refine y_cV d_L_661 664 rfl mv_B_loose kl_L_89 (by decide) (cu + mc) (su + ms) rfl rfl (by omega) (by omega) hx r rfl rfl (Nat.le_of_ble_eq_true rfl) ?_
  rintro _ h1 ⟨v, rfl, ⟨fs2, ho⟩, r2⟩
  refine y_aload_n d_L_664 665 rfl rfl rfl ?_
  refine y_aload_n d_L_665 666 rfl rfl rfl ?_
  refine y_iload_n d_L_666 667 rfl rfl rfl ?_
  refine y_iconst (v := nI 1) d_L_667 668 rfl rfl ?_
  refine y_iadd d_L_668 669 rfl ?_
  rw [nI_add]
  refine y_sld d_L_669 670 rfl (vp_in_nI (by omega) (by omega)) ?_
  rw [nI_clamp (by omega)]
  refine y_cV d_L_670 673 rfl mv_m_loose kl_L_92 (by decide) (cu + mc + 0) (su + ms + 0) rfl rfl (by omega) (by omega) ho r2 rfl rfl (Nat.le_of_ble_eq_true rfl) ?_
  rintro _ h2 ⟨rfl, inv⟩
  refine y_icmp_eq (tgt := 701) d_L_673 676 rfl rfl (fun _ => ?_) (fun e => absurd rfl e)
  refine y_inc3 (v := nI (j + 4)) d_L_701 704 rfl (nI_add j 4) rfl ?_
  refine y_goto (tgt := 18) d_L_704 rfl ?_
  exact K (P + u) h2 (cu + mc + 0) (su + ms + 0) inv ⟨by omega, by omega, by omega⟩
theorem law_rebuild (hi : INV D x o P h) (hj : j + 4 ≤ X.2.1) (hL : X.2.1 ≤ 2048) (hji : j = 4 * i) (hb : bdL i P cu su) (K : ∀ P' h' cu' su', INV D x o P' h' → bdL (i + 1) P' cu' su' → ZL X l D M_L 600000 7302250 (fun _ => True) h' cu' su' 18 [some (.ref X.1), some (.ref x), some (.ref o), some (.int (nI (j + 4)))] []) : ZL X l D M_L 600000 7302250 (fun _ => True) h cu su 678 [some (.ref X.1), some (.ref x), some (.ref o), some (.int (nI j))] [] := by
  obtain ⟨u, mc, ms, b0, b1, b2, ⟨fs, hx⟩, r⟩ := step_rebuild (l := l) (X.2.2 (j + 1)) hi
  obtain ⟨c1, c2, c3⟩ := hb
  refine y_aload_n d_L_678 679 rfl rfl rfl ?_
  refine y_aload_n d_L_679 680 rfl rfl rfl ?_
  refine y_iload_n d_L_680 681 rfl rfl rfl ?_
  refine y_iconst (v := nI 1) d_L_681 682 rfl rfl ?_
  refine y_iadd d_L_682 683 rfl ?_
  rw [nI_add]
  refine y_sld d_L_683 684 rfl (vp_in_nI (by omega) (by omega)) ?_
  rw [nI_clamp (by omega)]
  refine y_cV d_L_684 687 rfl mv_B_rebuild kl_L_93 (by decide) (cu + mc) (su + ms) rfl rfl (by omega) (by omega) hx r rfl rfl (Nat.le_of_ble_eq_true rfl) ?_
  rintro _ h1 ⟨v, rfl, ⟨fs2, ho⟩, r2⟩
  refine y_aload_n d_L_687 688 rfl rfl rfl ?_
  refine y_aload_n d_L_688 689 rfl rfl rfl ?_
  refine y_iload_n d_L_689 690 rfl rfl rfl ?_
  refine y_iconst (v := nI 1) d_L_690 691 rfl rfl ?_
  refine y_iadd d_L_691 692 rfl ?_
  rw [nI_add]
  refine y_sld d_L_692 693 rfl (vp_in_nI (by omega) (by omega)) ?_
  rw [nI_clamp (by omega)]
  refine y_cV d_L_693 696 rfl mv_m_rebuild kl_L_96 (by decide) (cu + mc + 0) (su + ms + 0) rfl rfl (by omega) (by omega) ho r2 rfl rfl (Nat.le_of_ble_eq_true rfl) ?_
  rintro _ h2 ⟨rfl, inv⟩
  refine y_icmp_eq (tgt := 701) d_L_696 699 rfl rfl (fun _ => ?_) (fun e => absurd rfl e)
  refine y_inc3 (v := nI (j + 4)) d_L_701 704 rfl (nI_add j 4) rfl ?_
  refine y_goto (tgt := 18) d_L_704 rfl ?_
  exact K (P + u) h2 (cu + mc + 0) (su + ms + 0) inv ⟨by omega, by omega, by omega⟩
theorem sw18 (k : Int32) : k = nI 0 ∨ k = nI 1 ∨ k = nI 2 ∨ k = nI 3 ∨ k = nI 4 ∨ k = nI 5 ∨ k = nI 6 ∨ k = nI 7 ∨ k = nI 8 ∨ k = nI 9 ∨ k = nI 10 ∨ k = nI 11 ∨ k = nI 12 ∨ k = nI 13 ∨ k = nI 14 ∨ k = nI 15 ∨ k = nI 16 ∨ k = nI 17 ∨ k = nI 18 ∨ (k.toInt < 0 ∨ 18 < k.toInt) := by
  by_cases h : k.toInt < 0 ∨ 18 < k.toInt
  · simp only [h, or_true]
  · have h0 : ¬ k < 0 := fun q => by
      have := Int32.lt_iff_toInt_lt.mp q
      rw [show (0 : Int32).toInt = 0 by decide] at this
      omega
    obtain ⟨e, he⟩ := nI_toN h0
    have h5 : toN k ≤ 18 := by
      rw [e, nI_toInt he] at h
      omega
    generalize toN k = m at e h5
    subst e
    rcases (show m = 0 ∨ m = 1 ∨ m = 2 ∨ m = 3 ∨ m = 4 ∨ m = 5 ∨ m = 6 ∨ m = 7 ∨ m = 8 ∨ m = 9 ∨ m = 10 ∨ m = 11 ∨ m = 12 ∨ m = 13 ∨ m = 14 ∨ m = 15 ∨ m = 16 ∨ m = 17 ∨ m = 18 by omega) with rfl | rfl | rfl | rfl | rfl | rfl | rfl | rfl | rfl | rfl | rfl | rfl | rfl | rfl | rfl | rfl | rfl | rfl | rfl <;> simp only [true_or, or_true]
theorem sub4 {L j : Nat} (hL : L ≤ 2048) (hj : j ≤ 4096) (h : ¬ nI L - nI 4 < nI j) : j + 4 ≤ L := by
  by_cases h4 : 4 ≤ L
  · rw [pk_sub h4, nI_ltI (by omega) (by omega)] at h
    omega
  · exfalso
    apply h
    have h0 : nI L - nI 4 < 0 := by
      rcases (show L = 0 ∨ L = 1 ∨ L = 2 ∨ L = 3 by omega) with rfl | rfl | rfl | rfl <;> decide
    have h1 := nI_pos' (n := j) (by omega)
    rw [Int32.lt_iff_toInt_lt] at h0 ⊢
    rw [Int32.le_iff_toInt_le] at h1
    omega
theorem law_loop (hL : X.2.1 ≤ 2048) : ∀ (n i P cu su : Nat) (h : zH), X.2.1 ≤ 4 * i + n → INV D x o P h → bdL i P cu su → ZL X l D M_L 600000 7302250 (fun _ => True) h cu su 18 [some (.ref X.1), some (.ref x), some (.ref o), some (.int (nI (4 * i)))] [] := by
  intro n
  induction n with
  | zero =>
    intro i P cu su h hn hi hb
    obtain ⟨c1, c2, c3⟩ := hb
    have hpb : P ≤ 6144 := by
      obtain ⟨W, V, va, vf, As, T, K, dr, -, -, -, hc⟩ := hi
      exact hc.pb
    refine y_iload_n d_L_18 19 rfl rfl rfl ?_
    refine y_aload_n d_L_19 20 rfl rfl rfl ?_
    refine y_slen d_L_20 21 rfl ?_
    refine y_iconst (v := nI 4) d_L_21 22 rfl rfl ?_
    refine y_isub d_L_22 23 rfl ?_
    refine y_icmp_gt (tgt := 707) d_L_23 26 rfl rfl (fun e => ?_) (fun e => ?_)
    · refine y_iconst (v := 1) d_L_707 708 rfl rfl ?_
      exact y_ret d_L_708 (by omega) (by omega) trivial
    · have := sub4 hL (by omega) e
      omega
  | succ n ih =>
    intro i P cu su h hn hi hb
    obtain ⟨c1, c2, c3⟩ := id hb
    have hpb : P ≤ 6144 := by
      obtain ⟨W, V, va, vf, As, T, K, dr, -, -, -, hc⟩ := id hi
      exact hc.pb
    refine y_iload_n d_L_18 19 rfl rfl rfl ?_
    refine y_aload_n d_L_19 20 rfl rfl rfl ?_
    refine y_slen d_L_20 21 rfl ?_
    refine y_iconst (v := nI 4) d_L_21 22 rfl rfl ?_
    refine y_isub d_L_22 23 rfl ?_
    refine y_icmp_gt (tgt := 707) d_L_23 26 rfl rfl (fun e => ?_) (fun e => ?_)
    · refine y_iconst (v := 1) d_L_707 708 rfl rfl ?_
      exact y_ret d_L_708 (by omega) (by omega) trivial
    · have hj := sub4 hL (by omega) e
      have K : ∀ P' h' cu' su', INV D x o P' h' → bdL (i + 1) P' cu' su' → ZL X l D M_L 600000 7302250 (fun _ => True) h' cu' su' 18 [some (.ref X.1), some (.ref x), some (.ref o), some (.int (nI (4 * i + 4)))] [] := by
        intro P' h' cu' su' hi' hb'
        exact ih (i + 1) P' cu' su' h' (by omega) hi' hb'
      refine y_aload_n d_L_26 27 rfl rfl rfl ?_
      refine y_iload_n d_L_27 28 rfl rfl rfl ?_
      refine y_sld d_L_28 29 rfl (vp_in_nI (by omega) (by omega)) ?_
      refine y_bipush (v := nI 31) d_L_29 31 rfl rfl ?_
      refine y_iand d_L_31 32 rfl ?_
      rcases sw18 (X.2.2 (nI (4 * i)).toNatClampNeg &&& nI 31) with e9 | e9 | e9 | e9 | e9 | e9 | e9 | e9 | e9 | e9 | e9 | e9 | e9 | e9 | e9 | e9 | e9 | e9 | e9 | e9
      · rw [e9]
        exact y_tin 124 d_L_32 (by decide) (by decide) rfl rfl (law_card hi hj hL rfl hb K)
      · rw [e9]
        exact y_tin 167 d_L_32 (by decide) (by decide) rfl rfl (law_raw hi hj hL rfl hb K)
      · rw [e9]
        exact y_tin 230 d_L_32 (by decide) (by decide) rfl rfl (law_drop hi hj hL rfl hb K)
      · rw [e9]
        exact y_tin 243 d_L_32 (by decide) (by decide) rfl rfl (law_files hi hj hL rfl hb K)
      · rw [e9]
        exact y_tin 266 d_L_32 (by decide) (by decide) rfl rfl (law_put hi hj hL rfl hb K)
      · rw [e9]
        exact y_tin 289 d_L_32 (by decide) (by decide) rfl rfl (law_round hi hj hL rfl hb K)
      · rw [e9]
        exact y_tin 312 d_L_32 (by decide) (by decide) rfl rfl (law_held hi hj hL rfl hb K)
      · rw [e9]
        exact y_tin 335 d_L_32 (by decide) (by decide) rfl rfl (law_name hi hj hL rfl hb K)
      · rw [e9]
        exact y_tin 368 d_L_32 (by decide) (by decide) rfl rfl (law_octet hi hj hL rfl hb K)
      · rw [e9]
        exact y_tin 411 d_L_32 (by decide) (by decide) rfl rfl (law_kind hi hj hL rfl hb K)
      · rw [e9]
        exact y_tin 444 d_L_32 (by decide) (by decide) rfl rfl (law_wanted hi hj hL rfl hb K)
      · rw [e9]
        exact y_tin 467 d_L_32 (by decide) (by decide) rfl rfl (law_wants hi hj hL rfl hb K)
      · rw [e9]
        exact y_tin 500 d_L_32 (by decide) (by decide) rfl rfl (law_checkIns hi hj hL rfl hb K)
      · rw [e9]
        exact y_tin 523 d_L_32 (by decide) (by decide) rfl rfl (law_timeline hi hj hL rfl hb K)
      · rw [e9]
        exact y_tin 556 d_L_32 (by decide) (by decide) rfl rfl (law_children hi hj hL rfl hb K)
      · rw [e9]
        exact y_tin 589 d_L_32 (by decide) (by decide) rfl rfl (law_leaves hi hj hL rfl hb K)
      · rw [e9]
        exact y_tin 612 d_L_32 (by decide) (by decide) rfl rfl (law_tag hi hj hL rfl hb K)
      · rw [e9]
        exact y_tin 655 d_L_32 (by decide) (by decide) rfl rfl (law_loose hi hj hL rfl hb K)
      · rw [e9]
        exact y_tin 678 d_L_32 (by decide) (by decide) rfl rfl (law_rebuild hi hj hL rfl hb K)
      · refine y_tout 701 d_L_32 e9 rfl ?_
        refine y_inc3 (v := nI (4 * i + 4)) d_L_701 704 rfl (nI_add (4 * i) 4) rfl ?_
        refine y_goto (tgt := 18) d_L_704 rfl ?_
        exact K P h cu su hi ⟨by omega, by omega, by omega⟩
end LAW

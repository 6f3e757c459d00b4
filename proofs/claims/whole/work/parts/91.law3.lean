/-! the law: its calls -/
abbrev mL_law : MT := (yL_law, cL_law, 7, some .boolean, [])
theorem cmpL_same (a : Int) : cmpL a a = 0 := by unfold cmpL; rw [if_neg (by omega), if_pos rfl]
theorem lkw_tell : CW RL 97 mL_tell := lk_L_97
theorem lkw_put : CW RL 110 mL_put := lk_L_110
theorem lkw_count : CW RL 113 mL_count := lk_L_113
theorem lkw_modulus : CW RL 117 mL_modulus := lk_L_117
theorem lkw_element : CW RL 120 mL_element := lk_L_120
theorem lkw_of : CW RL 124 mL_of := lk_L_124
theorem lkw_digit : CW RL 127 mL_digit := lk_L_127
theorem lkw_whole : CW RL 130 mL_whole := lk_L_130
theorem lkw_sum : CW RL 134 mL_sum := lk_L_134
theorem lkw_roots : CW RL 137 mL_roots := lk_L_137
theorem lkw_zeros : CW RL 140 mL_zeros := lk_L_140
theorem lkw_within : CW RL 143 mL_within := lk_L_143
theorem lkw_units : CW RL 146 mL_units := lk_L_146
theorem lkw_many : CW RL 149 mL_many := lk_L_149
theorem lkw_classes : CW RL 152 mL_classes := lk_L_152
theorem lkw_coefficient : CW RL 159 mL_coefficient := lk_L_159
theorem lkw_word : CW RL 172 mL_word := lk_L_172
theorem lkw_number : CW RL 176 mL_number := lk_L_176
theorem lkw_rest : CW RL 179 mL_rest := lk_L_179
theorem lkw_mend : CW RL 182 mL_mend := lk_L_182
theorem lkw_nearest : CW RL 185 mL_nearest := lk_L_185
theorem lkw_say : CW RL 188 mL_say := lk_L_188
theorem eL_0 : decode mL_law.2.1 0 = .ok (.new 8, 3) := dL_law_0
theorem eL_3 : decode mL_law.2.1 3 = .ok (.dup, 1) := dL_law_3
theorem eL_4 : decode mL_law.2.1 4 = .ok (.invokespecial 84, 3) := dL_law_4
theorem eL_7 : decode mL_law.2.1 7 = .ok (.astore_n 1, 1) := dL_law_7
theorem eL_8 : decode mL_law.2.1 8 = .ok (.new 85, 3) := dL_law_8
theorem eL_11 : decode mL_law.2.1 11 = .ok (.dup, 1) := dL_law_11
theorem eL_12 : decode mL_law.2.1 12 = .ok (.invokespecial 87, 3) := dL_law_12
theorem eL_15 : decode mL_law.2.1 15 = .ok (.astore_n 2, 1) := dL_law_15
theorem eL_16 : decode mL_law.2.1 16 = .ok (.iconst 1, 1) := dL_law_16
theorem eL_17 : decode mL_law.2.1 17 = .ok (.newarray .long, 2) := dL_law_17
theorem eL_19 : decode mL_law.2.1 19 = .ok (.astore_n 3, 1) := dL_law_19
theorem eL_20 : decode mL_law.2.1 20 = .ok (.iconst 0, 1) := dL_law_20
theorem eL_21 : decode mL_law.2.1 21 = .ok (.istore 4, 2) := dL_law_21
theorem eL_23 : decode mL_law.2.1 23 = .ok (.iload 4, 2) := dL_law_23
theorem eL_25 : decode mL_law.2.1 25 = .ok (.aload_n 0, 1) := dL_law_25
theorem eL_26 : decode mL_law.2.1 26 = .ok (.arraylength, 1) := dL_law_26
theorem eL_27 : decode mL_law.2.1 27 = .ok (.bipush 6, 2) := dL_law_27
theorem eL_29 : decode mL_law.2.1 29 = .ok (.isub, 1) := dL_law_29
theorem eL_30 : decode mL_law.2.1 30 = .ok (.if_icmp .gt 1875, 3) := dL_law_30
theorem eL_33 : decode mL_law.2.1 33 = .ok (.aload_n 0, 1) := dL_law_33
theorem eL_34 : decode mL_law.2.1 34 = .ok (.iload 4, 2) := dL_law_34
theorem eL_36 : decode mL_law.2.1 36 = .ok (.iaload, 1) := dL_law_36
theorem eL_37 : decode mL_law.2.1 37 = .ok (.bipush 31, 2) := dL_law_37
theorem eL_39 : decode mL_law.2.1 39 = .ok (.iand, 1) := dL_law_39
theorem eL_40 : decode mL_law.2.1 40 = .ok (.tableswitch 1859 0 28 #[132, 181, 254, 322, 335, 403, 459, 515, 595, 663, 731, 823, 891, 971, 1039, 1107, 1163, 1231, 1311, 1348, 1416, 1469, 1510, 1554, 1610, 1666, 1722, 1778, 1834], 132) := dL_law_40
theorem eL_172 : decode mL_law.2.1 172 = .ok (.aload_n 1, 1) := dL_law_172
theorem eL_173 : decode mL_law.2.1 173 = .ok (.aload_n 0, 1) := dL_law_173
theorem eL_174 : decode mL_law.2.1 174 = .ok (.iload 4, 2) := dL_law_174
theorem eL_176 : decode mL_law.2.1 176 = .ok (.iconst 1, 1) := dL_law_176
theorem eL_177 : decode mL_law.2.1 177 = .ok (.iadd, 1) := dL_law_177
theorem eL_178 : decode mL_law.2.1 178 = .ok (.iaload, 1) := dL_law_178
theorem eL_179 : decode mL_law.2.1 179 = .ok (.aload_n 0, 1) := dL_law_179
theorem eL_180 : decode mL_law.2.1 180 = .ok (.iload 4, 2) := dL_law_180
theorem eL_182 : decode mL_law.2.1 182 = .ok (.iconst 2, 1) := dL_law_182
theorem eL_183 : decode mL_law.2.1 183 = .ok (.iadd, 1) := dL_law_183
theorem eL_184 : decode mL_law.2.1 184 = .ok (.iaload, 1) := dL_law_184
theorem eL_185 : decode mL_law.2.1 185 = .ok (.aload_n 0, 1) := dL_law_185
theorem eL_186 : decode mL_law.2.1 186 = .ok (.iload 4, 2) := dL_law_186
theorem eL_188 : decode mL_law.2.1 188 = .ok (.iconst 3, 1) := dL_law_188
theorem eL_189 : decode mL_law.2.1 189 = .ok (.iadd, 1) := dL_law_189
theorem eL_190 : decode mL_law.2.1 190 = .ok (.iaload, 1) := dL_law_190
theorem eL_191 : decode mL_law.2.1 191 = .ok (.invokevirtual 88, 3) := dL_law_191
theorem eL_194 : decode mL_law.2.1 194 = .ok (.aload_n 2, 1) := dL_law_194
theorem eL_195 : decode mL_law.2.1 195 = .ok (.aload_n 0, 1) := dL_law_195
theorem eL_196 : decode mL_law.2.1 196 = .ok (.iload 4, 2) := dL_law_196
theorem eL_198 : decode mL_law.2.1 198 = .ok (.iconst 1, 1) := dL_law_198
theorem eL_199 : decode mL_law.2.1 199 = .ok (.iadd, 1) := dL_law_199
theorem eL_200 : decode mL_law.2.1 200 = .ok (.iaload, 1) := dL_law_200
theorem eL_201 : decode mL_law.2.1 201 = .ok (.aload_n 0, 1) := dL_law_201
theorem eL_202 : decode mL_law.2.1 202 = .ok (.iload 4, 2) := dL_law_202
theorem eL_204 : decode mL_law.2.1 204 = .ok (.iconst 2, 1) := dL_law_204
theorem eL_205 : decode mL_law.2.1 205 = .ok (.iadd, 1) := dL_law_205
theorem eL_206 : decode mL_law.2.1 206 = .ok (.iaload, 1) := dL_law_206
theorem eL_207 : decode mL_law.2.1 207 = .ok (.aload_n 0, 1) := dL_law_207
theorem eL_208 : decode mL_law.2.1 208 = .ok (.iload 4, 2) := dL_law_208
theorem eL_210 : decode mL_law.2.1 210 = .ok (.iconst 3, 1) := dL_law_210
theorem eL_211 : decode mL_law.2.1 211 = .ok (.iadd, 1) := dL_law_211
theorem eL_212 : decode mL_law.2.1 212 = .ok (.iaload, 1) := dL_law_212
theorem eL_213 : decode mL_law.2.1 213 = .ok (.invokevirtual 91, 3) := dL_law_213
theorem eL_216 : decode mL_law.2.1 216 = .ok (.if_icmp .eq 1683, 3) := dL_law_216
theorem eL_219 : decode mL_law.2.1 219 = .ok (.iconst 0, 1) := dL_law_219
theorem eL_220 : decode mL_law.2.1 220 = .ok (.ireturn, 1) := dL_law_220
theorem eL_221 : decode mL_law.2.1 221 = .ok (.aload_n 1, 1) := dL_law_221
theorem eL_222 : decode mL_law.2.1 222 = .ok (.aload_n 0, 1) := dL_law_222
theorem eL_223 : decode mL_law.2.1 223 = .ok (.iload 4, 2) := dL_law_223
theorem eL_225 : decode mL_law.2.1 225 = .ok (.iconst 1, 1) := dL_law_225
theorem eL_226 : decode mL_law.2.1 226 = .ok (.iadd, 1) := dL_law_226
theorem eL_227 : decode mL_law.2.1 227 = .ok (.iaload, 1) := dL_law_227
theorem eL_228 : decode mL_law.2.1 228 = .ok (.aload_n 0, 1) := dL_law_228
theorem eL_229 : decode mL_law.2.1 229 = .ok (.iload 4, 2) := dL_law_229
theorem eL_231 : decode mL_law.2.1 231 = .ok (.iconst 2, 1) := dL_law_231
theorem eL_232 : decode mL_law.2.1 232 = .ok (.iadd, 1) := dL_law_232
theorem eL_233 : decode mL_law.2.1 233 = .ok (.iaload, 1) := dL_law_233
theorem eL_234 : decode mL_law.2.1 234 = .ok (.aload_n 0, 1) := dL_law_234
theorem eL_235 : decode mL_law.2.1 235 = .ok (.iload 4, 2) := dL_law_235
theorem eL_237 : decode mL_law.2.1 237 = .ok (.iconst 3, 1) := dL_law_237
theorem eL_238 : decode mL_law.2.1 238 = .ok (.iadd, 1) := dL_law_238
theorem eL_239 : decode mL_law.2.1 239 = .ok (.iaload, 1) := dL_law_239
theorem eL_240 : decode mL_law.2.1 240 = .ok (.aload_n 0, 1) := dL_law_240
theorem eL_241 : decode mL_law.2.1 241 = .ok (.iload 4, 2) := dL_law_241
theorem eL_243 : decode mL_law.2.1 243 = .ok (.iconst 4, 1) := dL_law_243
theorem eL_244 : decode mL_law.2.1 244 = .ok (.iadd, 1) := dL_law_244
theorem eL_245 : decode mL_law.2.1 245 = .ok (.iaload, 1) := dL_law_245
theorem eL_246 : decode mL_law.2.1 246 = .ok (.aload_n 0, 1) := dL_law_246
theorem eL_247 : decode mL_law.2.1 247 = .ok (.iload 4, 2) := dL_law_247
theorem eL_249 : decode mL_law.2.1 249 = .ok (.iconst 5, 1) := dL_law_249
theorem eL_250 : decode mL_law.2.1 250 = .ok (.iadd, 1) := dL_law_250
theorem eL_251 : decode mL_law.2.1 251 = .ok (.iaload, 1) := dL_law_251
theorem eL_252 : decode mL_law.2.1 252 = .ok (.invokevirtual 92, 3) := dL_law_252
theorem eL_255 : decode mL_law.2.1 255 = .ok (.aload_n 2, 1) := dL_law_255
theorem eL_256 : decode mL_law.2.1 256 = .ok (.aload_n 0, 1) := dL_law_256
theorem eL_257 : decode mL_law.2.1 257 = .ok (.iload 4, 2) := dL_law_257
theorem eL_259 : decode mL_law.2.1 259 = .ok (.iconst 1, 1) := dL_law_259
theorem eL_260 : decode mL_law.2.1 260 = .ok (.iadd, 1) := dL_law_260
theorem eL_261 : decode mL_law.2.1 261 = .ok (.iaload, 1) := dL_law_261
theorem eL_262 : decode mL_law.2.1 262 = .ok (.aload_n 0, 1) := dL_law_262
theorem eL_263 : decode mL_law.2.1 263 = .ok (.iload 4, 2) := dL_law_263
theorem eL_265 : decode mL_law.2.1 265 = .ok (.iconst 2, 1) := dL_law_265
theorem eL_266 : decode mL_law.2.1 266 = .ok (.iadd, 1) := dL_law_266
theorem eL_267 : decode mL_law.2.1 267 = .ok (.iaload, 1) := dL_law_267
theorem eL_268 : decode mL_law.2.1 268 = .ok (.aload_n 0, 1) := dL_law_268
theorem eL_269 : decode mL_law.2.1 269 = .ok (.iload 4, 2) := dL_law_269
theorem eL_271 : decode mL_law.2.1 271 = .ok (.iconst 3, 1) := dL_law_271
theorem eL_272 : decode mL_law.2.1 272 = .ok (.iadd, 1) := dL_law_272
theorem eL_273 : decode mL_law.2.1 273 = .ok (.iaload, 1) := dL_law_273
theorem eL_274 : decode mL_law.2.1 274 = .ok (.aload_n 0, 1) := dL_law_274
theorem eL_275 : decode mL_law.2.1 275 = .ok (.iload 4, 2) := dL_law_275
theorem eL_277 : decode mL_law.2.1 277 = .ok (.iconst 4, 1) := dL_law_277
theorem eL_278 : decode mL_law.2.1 278 = .ok (.iadd, 1) := dL_law_278
theorem eL_279 : decode mL_law.2.1 279 = .ok (.iaload, 1) := dL_law_279
theorem eL_280 : decode mL_law.2.1 280 = .ok (.aload_n 0, 1) := dL_law_280
theorem eL_281 : decode mL_law.2.1 281 = .ok (.iload 4, 2) := dL_law_281
theorem eL_283 : decode mL_law.2.1 283 = .ok (.iconst 5, 1) := dL_law_283
theorem eL_284 : decode mL_law.2.1 284 = .ok (.iadd, 1) := dL_law_284
theorem eL_285 : decode mL_law.2.1 285 = .ok (.iaload, 1) := dL_law_285
theorem eL_286 : decode mL_law.2.1 286 = .ok (.invokevirtual 96, 3) := dL_law_286
theorem eL_289 : decode mL_law.2.1 289 = .ok (.if_icmp .eq 1610, 3) := dL_law_289
theorem eL_292 : decode mL_law.2.1 292 = .ok (.iconst 0, 1) := dL_law_292
theorem eL_293 : decode mL_law.2.1 293 = .ok (.ireturn, 1) := dL_law_293
theorem eL_294 : decode mL_law.2.1 294 = .ok (.aload_n 1, 1) := dL_law_294
theorem eL_295 : decode mL_law.2.1 295 = .ok (.aload_n 0, 1) := dL_law_295
theorem eL_296 : decode mL_law.2.1 296 = .ok (.iload 4, 2) := dL_law_296
theorem eL_298 : decode mL_law.2.1 298 = .ok (.iconst 1, 1) := dL_law_298
theorem eL_299 : decode mL_law.2.1 299 = .ok (.iadd, 1) := dL_law_299
theorem eL_300 : decode mL_law.2.1 300 = .ok (.iaload, 1) := dL_law_300
theorem eL_301 : decode mL_law.2.1 301 = .ok (.aload_n 0, 1) := dL_law_301
theorem eL_302 : decode mL_law.2.1 302 = .ok (.iload 4, 2) := dL_law_302
theorem eL_304 : decode mL_law.2.1 304 = .ok (.iconst 2, 1) := dL_law_304
theorem eL_305 : decode mL_law.2.1 305 = .ok (.iadd, 1) := dL_law_305
theorem eL_306 : decode mL_law.2.1 306 = .ok (.iaload, 1) := dL_law_306
theorem eL_307 : decode mL_law.2.1 307 = .ok (.aload_n 3, 1) := dL_law_307
theorem eL_308 : decode mL_law.2.1 308 = .ok (.invokestatic 97, 3) := dL_law_308
theorem eL_311 : decode mL_law.2.1 311 = .ok (.istore 5, 2) := dL_law_311
theorem eL_313 : decode mL_law.2.1 313 = .ok (.aload_n 2, 1) := dL_law_313
theorem eL_314 : decode mL_law.2.1 314 = .ok (.aload_n 0, 1) := dL_law_314
theorem eL_315 : decode mL_law.2.1 315 = .ok (.iload 4, 2) := dL_law_315
theorem eL_317 : decode mL_law.2.1 317 = .ok (.iconst 1, 1) := dL_law_317
theorem eL_318 : decode mL_law.2.1 318 = .ok (.iadd, 1) := dL_law_318
theorem eL_319 : decode mL_law.2.1 319 = .ok (.iaload, 1) := dL_law_319
theorem eL_320 : decode mL_law.2.1 320 = .ok (.aload_n 0, 1) := dL_law_320
theorem eL_321 : decode mL_law.2.1 321 = .ok (.iload 4, 2) := dL_law_321
theorem eL_323 : decode mL_law.2.1 323 = .ok (.iconst 2, 1) := dL_law_323
theorem eL_324 : decode mL_law.2.1 324 = .ok (.iadd, 1) := dL_law_324
theorem eL_325 : decode mL_law.2.1 325 = .ok (.iaload, 1) := dL_law_325
theorem eL_326 : decode mL_law.2.1 326 = .ok (.invokevirtual 102, 3) := dL_law_326
theorem eL_329 : decode mL_law.2.1 329 = .ok (.istore 6, 2) := dL_law_329
theorem eL_331 : decode mL_law.2.1 331 = .ok (.aload_n 2, 1) := dL_law_331
theorem eL_332 : decode mL_law.2.1 332 = .ok (.invokevirtual 103, 3) := dL_law_332
theorem eL_335 : decode mL_law.2.1 335 = .ok (.iload 5, 2) := dL_law_335
theorem eL_337 : decode mL_law.2.1 337 = .ok (.if_icmp .eq 5, 3) := dL_law_337
theorem eL_340 : decode mL_law.2.1 340 = .ok (.iconst 0, 1) := dL_law_340
theorem eL_341 : decode mL_law.2.1 341 = .ok (.ireturn, 1) := dL_law_341
theorem eL_342 : decode mL_law.2.1 342 = .ok (.iload 5, 2) := dL_law_342
theorem eL_344 : decode mL_law.2.1 344 = .ok (.ifCond .ne 15, 3) := dL_law_344
theorem eL_347 : decode mL_law.2.1 347 = .ok (.aload_n 3, 1) := dL_law_347
theorem eL_348 : decode mL_law.2.1 348 = .ok (.iconst 0, 1) := dL_law_348
theorem eL_349 : decode mL_law.2.1 349 = .ok (.laload, 1) := dL_law_349
theorem eL_350 : decode mL_law.2.1 350 = .ok (.iload 6, 2) := dL_law_350
theorem eL_352 : decode mL_law.2.1 352 = .ok (.i2l, 1) := dL_law_352
theorem eL_353 : decode mL_law.2.1 353 = .ok (.lcmp, 1) := dL_law_353
theorem eL_354 : decode mL_law.2.1 354 = .ok (.ifCond .eq 5, 3) := dL_law_354
theorem eL_357 : decode mL_law.2.1 357 = .ok (.iconst 0, 1) := dL_law_357
theorem eL_358 : decode mL_law.2.1 358 = .ok (.ireturn, 1) := dL_law_358
theorem eL_359 : decode mL_law.2.1 359 = .ok (.goto 1540, 3) := dL_law_359
set_option maxRecDepth 20000 in
theorem st_ring {S0 : Nat → Int} {n0 i oo nc ns dx cx sx dm cm sm D mc ms : Nat} {v0 : Int} {QX QM : HF → HA → Prop} {l5 l6 : Option LV} {F : HF} {A : HA} {al : AL} {Post : PO}
    (hK : KX al) (hM : KM al) (hs : al.1 0 = (4, n0)) (hoo : al.1 oo = (2, 1)) (h67 : 67 ≤ oo) (hot : oo < al.2) (hA0 : A 0 = S0) (hi : i + 6 ≤ n0) (hn0 : n0 ≤ 3072)
    (hD : 60 ≤ D) (hdx : dx ≤ 57) (hdm : dm ≤ 57) (hmc : nc + cx + cm ≤ mc) (hms : ns + sx + sm ≤ ms)
    (hQX : ∀ (F1 : HF) (A1 : HA) (F2 : HF) (A2 : HA), QX F1 A1 → (∀ b k, b < 44 → F2 b k = F1 b k) → (∀ b, b < 44 → A2 b = A1 b) → QX F2 A2)
    (evx : QE dx cx sx mX11_ring (vA 1 :: [vI (S0 ((i : Int) + 1).toNat), vI (S0 ((i : Int) + 2).toNat), vI (S0 ((i : Int) + 3).toNat)]) F A al (PXR eN (some v0) F A al QX))
    (evm : ∀ (F1 : HF) (A1 : HA), (∀ b k, 44 ≤ b → F1 b k = F b k) → (∀ b, 44 ≤ b → b < 67 → A1 b = A b) → QE dm cm sm mX12_ring (vA 44 :: [vI (S0 ((i : Int) + 1).toNat), vI (S0 ((i : Int) + 2).toNat), vI (S0 ((i : Int) + 3).toNat)]) F1 A1 al (PMR (some v0) F1 A1 al QM))
    (kk : ∀ (F2 : HF) (A2 : HA) (al2 : AL) (l5 l6 : Option LV), KE al.2 al al2 → QX F2 A2 → QM F2 A2 → A2 0 = S0 → QW mL_law D mc ms Post (nc + cx + cm) (ns + sx + sm) 1899 [some (vA 0), some (vA 1), some (vA 44), some (vA oo), some (vI (i : Nat)), l5, l6] [] F2 A2 al2) :
    QW mL_law D mc ms Post nc ns 172 [some (vA 0), some (vA 1), some (vA 44), some (vA oo), some (vI (i : Nat)), l5, l6] [] F A al := by
  refine q_aload_n eL_172 rfl ?_
  refine q_aload_n eL_173 rfl ?_
  refine q_iload eL_174 rfl ?_
  refine q_iconst eL_176 ?_
  refine q_iadd eL_177 ?_
  refine q_sldE eL_178 hA0 hs (by omega) (by omega) ?_
  refine q_aload_n eL_179 rfl ?_
  refine q_iload eL_180 rfl ?_
  refine q_iconst eL_182 ?_
  refine q_iadd eL_183 ?_
  refine q_sldE eL_184 hA0 hs (by omega) (by omega) ?_
  refine q_aload_n eL_185 rfl ?_
  refine q_iload eL_186 rfl ?_
  refine q_iconst eL_188 ?_
  refine q_iadd eL_189 ?_
  refine q_sldE eL_190 hA0 hs (by omega) (by omega) ?_
  refine q_callV [vI (S0 ((i : Int) + 1).toNat), vI (S0 ((i : Int) + 2).toNat), vI (S0 ((i : Int) + 3).toNat)] (M1 := mX11_ring) eL_191 mf_X11_ring lk_L_88 (hK 1 (by decide) (by decide)) evx (by intro E F A al h; cases h.1) (by omega) (by omega) (by omega) (Nat.le_of_ble_eq_true rfl) (st := []) rfl (fun v1 F1 A1 al1 h1 => ?_)
  obtain ⟨e1, rfl, f1, a1, q9⟩ := h1
  cases e1
  have hA1 : A1 0 = S0 := (a1 0 (Or.inl rfl)).trans hA0
  refine q_aload_n eL_194 rfl ?_
  refine q_aload_n eL_195 rfl ?_
  refine q_iload eL_196 rfl ?_
  refine q_iconst eL_198 ?_
  refine q_iadd eL_199 ?_
  refine q_sldE eL_200 hA1 hs (by omega) (by omega) ?_
  refine q_aload_n eL_201 rfl ?_
  refine q_iload eL_202 rfl ?_
  refine q_iconst eL_204 ?_
  refine q_iadd eL_205 ?_
  refine q_sldE eL_206 hA1 hs (by omega) (by omega) ?_
  refine q_aload_n eL_207 rfl ?_
  refine q_iload eL_208 rfl ?_
  refine q_iconst eL_210 ?_
  refine q_iadd eL_211 ?_
  refine q_sldE eL_212 hA1 hs (by omega) (by omega) ?_
  refine q_callV [vI (S0 ((i : Int) + 1).toNat), vI (S0 ((i : Int) + 2).toNat), vI (S0 ((i : Int) + 3).toNat)] (M1 := mX12_ring) eL_213 mf_X12_ring lk_L_91 (hM 44 (by decide) (by decide)) (evm F1 A1 f1 (fun b h1 _ => a1 b (Or.inr h1))) (by intro E F A al h; cases h.1) (by omega) (by omega) (by omega) (Nat.le_of_ble_eq_true rfl) (st := [vI v0]) rfl (fun v2 F2 A2 al2 h2 => ?_)
  obtain ⟨e2, t2, ke, f2, a2, q2⟩ := h2
  obtain rfl := Sum.inl.inj e2
  have hA2 : A2 0 = S0 := (a2 0 (by omega) (Or.inl (by decide))).trans hA1
  have hx2 : QX F2 A2 := hQX F1 A1 F2 A2 q9 (fun b k hb => f2 b k (by omega) (by omega)) (fun b hb => a2 b (by omega) (Or.inl hb))
  refine q_icmp_same (tgt := 1899) eL_216 (by decide) ?_
  exact kk F2 A2 al2 _ _ ke hx2 q2 hA2
set_option maxRecDepth 20000 in
theorem st_feed {S0 : Nat → Int} {n0 i oo nc ns dx cx sx dm cm sm D mc ms : Nat} {v0 : Int} {QX QM : HF → HA → Prop} {l5 l6 : Option LV} {F : HF} {A : HA} {al : AL} {Post : PO}
    (hK : KX al) (hM : KM al) (hs : al.1 0 = (4, n0)) (hoo : al.1 oo = (2, 1)) (h67 : 67 ≤ oo) (hot : oo < al.2) (hA0 : A 0 = S0) (hi : i + 6 ≤ n0) (hn0 : n0 ≤ 3072)
    (hD : 60 ≤ D) (hdx : dx ≤ 57) (hdm : dm ≤ 57) (hmc : nc + cx + cm ≤ mc) (hms : ns + sx + sm ≤ ms)
    (hQX : ∀ (F1 : HF) (A1 : HA) (F2 : HF) (A2 : HA), QX F1 A1 → (∀ b k, b < 44 → F2 b k = F1 b k) → (∀ b, b < 44 → A2 b = A1 b) → QX F2 A2)
    (evx : QE dx cx sx mX11_feed (vA 1 :: [vI (S0 ((i : Int) + 1).toNat), vI (S0 ((i : Int) + 2).toNat), vI (S0 ((i : Int) + 3).toNat), vI (S0 ((i : Int) + 4).toNat), vI (S0 ((i : Int) + 5).toNat)]) F A al (PXR eN (some v0) F A al QX))
    (evm : ∀ (F1 : HF) (A1 : HA), (∀ b k, 44 ≤ b → F1 b k = F b k) → (∀ b, 44 ≤ b → b < 67 → A1 b = A b) → QE dm cm sm mX12_feed (vA 44 :: [vI (S0 ((i : Int) + 1).toNat), vI (S0 ((i : Int) + 2).toNat), vI (S0 ((i : Int) + 3).toNat), vI (S0 ((i : Int) + 4).toNat), vI (S0 ((i : Int) + 5).toNat)]) F1 A1 al (PMR (some v0) F1 A1 al QM))
    (kk : ∀ (F2 : HF) (A2 : HA) (al2 : AL) (l5 l6 : Option LV), KE al.2 al al2 → QX F2 A2 → QM F2 A2 → A2 0 = S0 → QW mL_law D mc ms Post (nc + cx + cm) (ns + sx + sm) 1899 [some (vA 0), some (vA 1), some (vA 44), some (vA oo), some (vI (i : Nat)), l5, l6] [] F2 A2 al2) :
    QW mL_law D mc ms Post nc ns 221 [some (vA 0), some (vA 1), some (vA 44), some (vA oo), some (vI (i : Nat)), l5, l6] [] F A al := by
  refine q_aload_n eL_221 rfl ?_
  refine q_aload_n eL_222 rfl ?_
  refine q_iload eL_223 rfl ?_
  refine q_iconst eL_225 ?_
  refine q_iadd eL_226 ?_
  refine q_sldE eL_227 hA0 hs (by omega) (by omega) ?_
  refine q_aload_n eL_228 rfl ?_
  refine q_iload eL_229 rfl ?_
  refine q_iconst eL_231 ?_
  refine q_iadd eL_232 ?_
  refine q_sldE eL_233 hA0 hs (by omega) (by omega) ?_
  refine q_aload_n eL_234 rfl ?_
  refine q_iload eL_235 rfl ?_
  refine q_iconst eL_237 ?_
  refine q_iadd eL_238 ?_
  refine q_sldE eL_239 hA0 hs (by omega) (by omega) ?_
  refine q_aload_n eL_240 rfl ?_
  refine q_iload eL_241 rfl ?_
  refine q_iconst eL_243 ?_
  refine q_iadd eL_244 ?_
  refine q_sldE eL_245 hA0 hs (by omega) (by omega) ?_
  refine q_aload_n eL_246 rfl ?_
  refine q_iload eL_247 rfl ?_
  refine q_iconst eL_249 ?_
  refine q_iadd eL_250 ?_
  refine q_sldE eL_251 hA0 hs (by omega) (by omega) ?_
  refine q_callV [vI (S0 ((i : Int) + 1).toNat), vI (S0 ((i : Int) + 2).toNat), vI (S0 ((i : Int) + 3).toNat), vI (S0 ((i : Int) + 4).toNat), vI (S0 ((i : Int) + 5).toNat)] (M1 := mX11_feed) eL_252 mf_X11_feed lk_L_92 (hK 1 (by decide) (by decide)) evx (by intro E F A al h; cases h.1) (by omega) (by omega) (by omega) (Nat.le_of_ble_eq_true rfl) (st := []) rfl (fun v1 F1 A1 al1 h1 => ?_)
  obtain ⟨e1, rfl, f1, a1, q9⟩ := h1
  cases e1
  have hA1 : A1 0 = S0 := (a1 0 (Or.inl rfl)).trans hA0
  refine q_aload_n eL_255 rfl ?_
  refine q_aload_n eL_256 rfl ?_
  refine q_iload eL_257 rfl ?_
  refine q_iconst eL_259 ?_
  refine q_iadd eL_260 ?_
  refine q_sldE eL_261 hA1 hs (by omega) (by omega) ?_
  refine q_aload_n eL_262 rfl ?_
  refine q_iload eL_263 rfl ?_
  refine q_iconst eL_265 ?_
  refine q_iadd eL_266 ?_
  refine q_sldE eL_267 hA1 hs (by omega) (by omega) ?_
  refine q_aload_n eL_268 rfl ?_
  refine q_iload eL_269 rfl ?_
  refine q_iconst eL_271 ?_
  refine q_iadd eL_272 ?_
  refine q_sldE eL_273 hA1 hs (by omega) (by omega) ?_
  refine q_aload_n eL_274 rfl ?_
  refine q_iload eL_275 rfl ?_
  refine q_iconst eL_277 ?_
  refine q_iadd eL_278 ?_
  refine q_sldE eL_279 hA1 hs (by omega) (by omega) ?_
  refine q_aload_n eL_280 rfl ?_
  refine q_iload eL_281 rfl ?_
  refine q_iconst eL_283 ?_
  refine q_iadd eL_284 ?_
  refine q_sldE eL_285 hA1 hs (by omega) (by omega) ?_
  refine q_callV [vI (S0 ((i : Int) + 1).toNat), vI (S0 ((i : Int) + 2).toNat), vI (S0 ((i : Int) + 3).toNat), vI (S0 ((i : Int) + 4).toNat), vI (S0 ((i : Int) + 5).toNat)] (M1 := mX12_feed) eL_286 mf_X12_feed lk_L_96 (hM 44 (by decide) (by decide)) (evm F1 A1 f1 (fun b h1 _ => a1 b (Or.inr h1))) (by intro E F A al h; cases h.1) (by omega) (by omega) (by omega) (Nat.le_of_ble_eq_true rfl) (st := [vI v0]) rfl (fun v2 F2 A2 al2 h2 => ?_)
  obtain ⟨e2, t2, ke, f2, a2, q2⟩ := h2
  obtain rfl := Sum.inl.inj e2
  have hA2 : A2 0 = S0 := (a2 0 (by omega) (Or.inl (by decide))).trans hA1
  have hx2 : QX F2 A2 := hQX F1 A1 F2 A2 q9 (fun b k hb => f2 b k (by omega) (by omega)) (fun b hb => a2 b (by omega) (Or.inl hb))
  refine q_icmp_same (tgt := 1899) eL_289 (by decide) ?_
  exact kk F2 A2 al2 _ _ ke hx2 q2 hA2
set_option maxRecDepth 20000 in
theorem st_tell {S0 : Nat → Int} {n0 i oo nc ns dx cx sx dm cm sm D mc ms : Nat} {R : Option Int} {QX QM : HF → HA → Prop} {l5 l6 : Option LV} {F : HF} {A : HA} {al : AL} {Post : PO}
    (hK : KX al) (hM : KM al) (hs : al.1 0 = (4, n0)) (hoo : al.1 oo = (2, 1)) (h67 : 67 ≤ oo) (hot : oo < al.2) (hA0 : A 0 = S0) (hi : i + 6 ≤ n0) (hn0 : n0 ≤ 3072)
    (hD : 60 ≤ D) (hdx : dx ≤ 57) (hdm : dm ≤ 57) (hmc : nc + cx + cm ≤ mc) (hms : ns + sx + sm ≤ ms)
    (hQX : ∀ (F1 : HF) (A1 : HA) (F2 : HF) (A2 : HA), QX F1 A1 → (∀ b k, b < 44 → F2 b k = F1 b k) → (∀ b, b < 44 → A2 b = A1 b) → QX F2 A2)
    (evx : QE dx cx sx mX11_tell (vA 1 :: [vI (S0 ((i : Int) + 1).toNat), vI (S0 ((i : Int) + 2).toNat)]) F A al (PXR eI R F A al QX))
    (evm : ∀ (F1 : HF) (A1 : HA), (∀ b k, 44 ≤ b → F1 b k = F b k) → (∀ b, 44 ≤ b → b < 67 → A1 b = A b) → QE dm cm sm mX12_tell (vA 44 :: [vI (S0 ((i : Int) + 1).toNat), vI (S0 ((i : Int) + 2).toNat)]) F1 A1 al (PMR R F1 A1 al QM))
    (kk : ∀ (F2 : HF) (A2 : HA) (al2 : AL) (l5 l6 : Option LV), KE al.2 al al2 → QX F2 A2 → QM F2 A2 → A2 0 = S0 → QW mL_law D mc ms Post (nc + cx + cm) (ns + sx + sm) 1899 [some (vA 0), some (vA 1), some (vA 44), some (vA oo), some (vI (i : Nat)), l5, l6] [] F2 A2 al2) :
    QW mL_law D mc ms Post nc ns 294 [some (vA 0), some (vA 1), some (vA 44), some (vA oo), some (vI (i : Nat)), l5, l6] [] F A al := by
  refine q_aload_n eL_294 rfl ?_
  refine q_aload_n eL_295 rfl ?_
  refine q_iload eL_296 rfl ?_
  refine q_iconst eL_298 ?_
  refine q_iadd eL_299 ?_
  refine q_sldE eL_300 hA0 hs (by omega) (by omega) ?_
  refine q_aload_n eL_301 rfl ?_
  refine q_iload eL_302 rfl ?_
  refine q_iconst eL_304 ?_
  refine q_iadd eL_305 ?_
  refine q_sldE eL_306 hA0 hs (by omega) (by omega) ?_
  refine q_aload_n eL_307 rfl ?_
  refine q_callSW [vA 1, vI (S0 ((i : Int) + 1).toNat), vI (S0 ((i : Int) + 2).toNat), vA oo] (M1 := mL_tell) eL_308 mfw_tell lkw_tell (lw_tell (D := 58) hK hoo h67 (by omega) evx) nt_PW (by omega) (by omega) (by omega) (Nat.le_of_ble_eq_true rfl) (st := []) rfl (fun v1 F1 A1 al1 h1 => ?_)
  obtain ⟨e1, rfl, f1, a1, ⟨A9, q9, b9⟩, w9⟩ := h1
  obtain rfl := Sum.inl.inj e1
  have hA1 : A1 0 = S0 := (a1 0 (Or.inl rfl)).trans hA0
  refine q_istore eL_311 (by decide) rfl ?_
  refine q_aload_n eL_313 rfl ?_
  refine q_aload_n eL_314 rfl ?_
  refine q_iload eL_315 rfl ?_
  refine q_iconst eL_317 ?_
  refine q_iadd eL_318 ?_
  refine q_sldE eL_319 hA1 hs (by omega) (by omega) ?_
  refine q_aload_n eL_320 rfl ?_
  refine q_iload eL_321 rfl ?_
  refine q_iconst eL_323 ?_
  refine q_iadd eL_324 ?_
  refine q_sldE eL_325 hA1 hs (by omega) (by omega) ?_
  refine q_callV [vI (S0 ((i : Int) + 1).toNat), vI (S0 ((i : Int) + 2).toNat)] (M1 := mX12_tell) eL_326 mf_X12_tell lk_L_102 (hM 44 (by decide) (by decide)) (evm F1 A1 f1 (fun b h1 h2 => a1 b (Or.inr ⟨h1, h2⟩))) (by intro E F A al h; cases h.1) (by omega) (by omega) (by omega) (Nat.le_of_ble_eq_true rfl) (st := []) rfl (fun v2 F2 A2 al2 h2 => ?_)
  obtain ⟨e2, t2, ke, f2, a2, q2⟩ := h2
  obtain rfl := Sum.inl.inj e2
  have hA2 : A2 0 = S0 := (a2 0 (by omega) (Or.inl (by decide))).trans hA1
  have hx2 : QX F2 A2 := hQX F1 A9 F2 A2 q9 (fun b k hb => f2 b k (by omega) (by omega)) (fun b hb => (a2 b (by omega) (Or.inl hb)).trans (b9 b hb))
  have hM2 : KM al2 := fun a h1 h2 => (ke.2 a (by omega)).trans (hM a h1 h2)
  refine q_istore eL_329 (by decide) rfl ?_
  refine q_aload_n eL_331 rfl ?_
  refine q_callVP [] (M1 := mX12_thrown) eL_332 mf_X12_thrown lk_L_103 (hM2 44 (by decide) (by decide)) (mo_thrown hM2 t2) (by omega) (by omega) (by omega) (Nat.le_of_ble_eq_true rfl) rfl ?_
  refine q_iload eL_335 rfl ?_
  refine q_icmp_same (tgt := 342) eL_337 (by decide) ?_
  refine q_iload eL_342 rfl ?_
  rcases R with _ | a9
  · refine q_if_ne (tgt := 359) eL_344 (by decide) ⟨by decide, by decide⟩ (fun c => ?_) (fun c => absurd c (by decide))
    refine q_goto (tgt := 1899) eL_359 (by decide) ?_
    exact kk F2 A2 al2 _ _ ke hx2 q2 hA2
  · refine q_if_ne (tgt := 359) eL_344 (by decide) inR0 (fun c => absurd (show thE (some a9) = 0 from rfl) c) (fun c => ?_)
    refine q_aload_n eL_347 rfl ?_
    refine q_iconst eL_348 ?_
    refine q_lald eL_349 ((ke.2 oo hot).trans hoo) (by decide) (by decide) ?_
    rw [show A2 oo (0 : Int).toNat = wr a9 from (congrFun (a2 oo hot (Or.inr h67)) 0).trans (w9 a9 rfl)]
    refine q_iload eL_350 rfl ?_
    refine q_i2lw eL_352 ?_
    refine q_lcmp eL_353 (wr_L _) (wr_L _) ?_
    refine q_if_eq (tgt := 359) eL_354 (by decide) (cmpL_R _ _) (fun c => ?_) (fun c => absurd (cmpL_same _) c)
    refine q_goto (tgt := 1899) eL_359 (by decide) ?_
    exact kk F2 A2 al2 _ _ ke hx2 q2 hA2

/-! the law: rows for its calls, its small methods -/
abbrev mL_law : MT := (yL_law, cL_law, 26, some .boolean, [])
theorem eL_law_0 : decode mL_law.2.1 0 = .ok (.new 9, 3) := dL_law_0
theorem eL_law_3 : decode mL_law.2.1 3 = .ok (.dup, 1) := dL_law_3
theorem eL_law_4 : decode mL_law.2.1 4 = .ok (.invokespecial 28, 3) := dL_law_4
theorem eL_law_7 : decode mL_law.2.1 7 = .ok (.astore_n 1, 1) := dL_law_7
theorem eL_law_8 : decode mL_law.2.1 8 = .ok (.aload_n 1, 1) := dL_law_8
theorem eL_law_9 : decode mL_law.2.1 9 = .ok (.aload_n 0, 1) := dL_law_9
theorem eL_law_10 : decode mL_law.2.1 10 = .ok (.iconst 0, 1) := dL_law_10
theorem eL_law_11 : decode mL_law.2.1 11 = .ok (.invokestatic 29, 3) := dL_law_11
theorem eL_law_14 : decode mL_law.2.1 14 = .ok (.invokestatic 35, 3) := dL_law_14
theorem eL_law_17 : decode mL_law.2.1 17 = .ok (.istore_n 2, 1) := dL_law_17
theorem eL_law_18 : decode mL_law.2.1 18 = .ok (.aload_n 1, 1) := dL_law_18
theorem eL_law_19 : decode mL_law.2.1 19 = .ok (.iconst 2, 1) := dL_law_19
theorem eL_law_20 : decode mL_law.2.1 20 = .ok (.invokevirtual 14, 3) := dL_law_20
theorem eL_law_23 : decode mL_law.2.1 23 = .ok (.istore_n 3, 1) := dL_law_23
theorem eL_law_24 : decode mL_law.2.1 24 = .ok (.aload_n 1, 1) := dL_law_24
theorem eL_law_25 : decode mL_law.2.1 25 = .ok (.iconst 1, 1) := dL_law_25
theorem eL_law_26 : decode mL_law.2.1 26 = .ok (.invokevirtual 14, 3) := dL_law_26
theorem eL_law_29 : decode mL_law.2.1 29 = .ok (.istore 4, 2) := dL_law_29
theorem eL_law_31 : decode mL_law.2.1 31 = .ok (.aload_n 1, 1) := dL_law_31
theorem eL_law_32 : decode mL_law.2.1 32 = .ok (.iconst 3, 1) := dL_law_32
theorem eL_law_33 : decode mL_law.2.1 33 = .ok (.invokevirtual 14, 3) := dL_law_33
theorem eL_law_36 : decode mL_law.2.1 36 = .ok (.istore 5, 2) := dL_law_36
theorem eL_law_38 : decode mL_law.2.1 38 = .ok (.aload_n 0, 1) := dL_law_38
theorem eL_law_39 : decode mL_law.2.1 39 = .ok (.iconst 1, 1) := dL_law_39
theorem eL_law_40 : decode mL_law.2.1 40 = .ok (.invokestatic 29, 3) := dL_law_40
theorem eL_law_43 : decode mL_law.2.1 43 = .ok (.iload_n 2, 1) := dL_law_43
theorem eL_law_44 : decode mL_law.2.1 44 = .ok (.irem, 1) := dL_law_44
theorem eL_law_45 : decode mL_law.2.1 45 = .ok (.istore 6, 2) := dL_law_45
theorem eL_law_47 : decode mL_law.2.1 47 = .ok (.aload_n 0, 1) := dL_law_47
theorem eL_law_48 : decode mL_law.2.1 48 = .ok (.iconst 2, 1) := dL_law_48
theorem eL_law_49 : decode mL_law.2.1 49 = .ok (.invokestatic 29, 3) := dL_law_49
theorem eL_law_52 : decode mL_law.2.1 52 = .ok (.iload_n 2, 1) := dL_law_52
theorem eL_law_53 : decode mL_law.2.1 53 = .ok (.irem, 1) := dL_law_53
theorem eL_law_54 : decode mL_law.2.1 54 = .ok (.istore 7, 2) := dL_law_54
theorem eL_law_56 : decode mL_law.2.1 56 = .ok (.iconst 4, 1) := dL_law_56
theorem eL_law_57 : decode mL_law.2.1 57 = .ok (.newarray .int, 2) := dL_law_57
theorem eL_law_59 : decode mL_law.2.1 59 = .ok (.dup, 1) := dL_law_59
theorem eL_law_60 : decode mL_law.2.1 60 = .ok (.iconst 0, 1) := dL_law_60
theorem eL_law_61 : decode mL_law.2.1 61 = .ok (.iconst (-1), 1) := dL_law_61
theorem eL_law_62 : decode mL_law.2.1 62 = .ok (.iastore, 1) := dL_law_62
theorem eL_law_63 : decode mL_law.2.1 63 = .ok (.dup, 1) := dL_law_63
theorem eL_law_64 : decode mL_law.2.1 64 = .ok (.iconst 1, 1) := dL_law_64
theorem eL_law_65 : decode mL_law.2.1 65 = .ok (.iconst (-1), 1) := dL_law_65
theorem eL_law_66 : decode mL_law.2.1 66 = .ok (.iastore, 1) := dL_law_66
theorem eL_law_67 : decode mL_law.2.1 67 = .ok (.dup, 1) := dL_law_67
theorem eL_law_68 : decode mL_law.2.1 68 = .ok (.iconst 2, 1) := dL_law_68
theorem eL_law_69 : decode mL_law.2.1 69 = .ok (.iconst (-1), 1) := dL_law_69
theorem eL_law_70 : decode mL_law.2.1 70 = .ok (.iastore, 1) := dL_law_70
theorem eL_law_71 : decode mL_law.2.1 71 = .ok (.dup, 1) := dL_law_71
theorem eL_law_72 : decode mL_law.2.1 72 = .ok (.iconst 3, 1) := dL_law_72
theorem eL_law_73 : decode mL_law.2.1 73 = .ok (.iconst (-1), 1) := dL_law_73
theorem eL_law_74 : decode mL_law.2.1 74 = .ok (.iastore, 1) := dL_law_74
theorem eL_law_75 : decode mL_law.2.1 75 = .ok (.astore 8, 2) := dL_law_75
theorem eL_law_77 : decode mL_law.2.1 77 = .ok (.iconst 0, 1) := dL_law_77
theorem eL_law_78 : decode mL_law.2.1 78 = .ok (.istore 9, 2) := dL_law_78
theorem eL_law_80 : decode mL_law.2.1 80 = .ok (.iload 9, 2) := dL_law_80
theorem eL_law_82 : decode mL_law.2.1 82 = .ok (.iload 4, 2) := dL_law_82
theorem eL_law_84 : decode mL_law.2.1 84 = .ok (.if_icmp .ge 22, 3) := dL_law_84
theorem eL_law_87 : decode mL_law.2.1 87 = .ok (.aload 8, 2) := dL_law_87
theorem eL_law_89 : decode mL_law.2.1 89 = .ok (.iload 9, 2) := dL_law_89
theorem eL_law_91 : decode mL_law.2.1 91 = .ok (.aload_n 1, 1) := dL_law_91
theorem eL_law_92 : decode mL_law.2.1 92 = .ok (.iload 6, 2) := dL_law_92
theorem eL_law_94 : decode mL_law.2.1 94 = .ok (.iload 9, 2) := dL_law_94
theorem eL_law_96 : decode mL_law.2.1 96 = .ok (.invokevirtual 39, 3) := dL_law_96
theorem eL_law_99 : decode mL_law.2.1 99 = .ok (.iastore, 1) := dL_law_99
theorem eL_law_100 : decode mL_law.2.1 100 = .ok (.iinc 9 1, 3) := dL_law_100
theorem eL_law_103 : decode mL_law.2.1 103 = .ok (.goto (-23), 3) := dL_law_103
theorem eL_law_106 : decode mL_law.2.1 106 = .ok (.aload_n 1, 1) := dL_law_106
theorem eL_law_107 : decode mL_law.2.1 107 = .ok (.aload 8, 2) := dL_law_107
theorem eL_law_109 : decode mL_law.2.1 109 = .ok (.iconst 0, 1) := dL_law_109
theorem eL_law_110 : decode mL_law.2.1 110 = .ok (.iaload, 1) := dL_law_110
theorem eL_law_111 : decode mL_law.2.1 111 = .ok (.aload 8, 2) := dL_law_111
theorem eL_law_113 : decode mL_law.2.1 113 = .ok (.iconst 1, 1) := dL_law_113
theorem eL_law_114 : decode mL_law.2.1 114 = .ok (.iaload, 1) := dL_law_114
theorem eL_law_115 : decode mL_law.2.1 115 = .ok (.aload 8, 2) := dL_law_115
theorem eL_law_117 : decode mL_law.2.1 117 = .ok (.iconst 2, 1) := dL_law_117
theorem eL_law_118 : decode mL_law.2.1 118 = .ok (.iaload, 1) := dL_law_118
theorem eL_law_119 : decode mL_law.2.1 119 = .ok (.aload 8, 2) := dL_law_119
theorem eL_law_121 : decode mL_law.2.1 121 = .ok (.iconst 3, 1) := dL_law_121
theorem eL_law_122 : decode mL_law.2.1 122 = .ok (.iaload, 1) := dL_law_122
theorem eL_law_123 : decode mL_law.2.1 123 = .ok (.invokevirtual 42, 3) := dL_law_123
theorem eL_law_126 : decode mL_law.2.1 126 = .ok (.iload 6, 2) := dL_law_126
theorem eL_law_128 : decode mL_law.2.1 128 = .ok (.if_icmp .eq 5, 3) := dL_law_128
theorem eL_law_131 : decode mL_law.2.1 131 = .ok (.iconst 0, 1) := dL_law_131
theorem eL_law_132 : decode mL_law.2.1 132 = .ok (.ireturn, 1) := dL_law_132
theorem eL_law_133 : decode mL_law.2.1 133 = .ok (.iconst 0, 1) := dL_law_133
theorem eL_law_134 : decode mL_law.2.1 134 = .ok (.istore 9, 2) := dL_law_134
theorem eL_law_136 : decode mL_law.2.1 136 = .ok (.iload 9, 2) := dL_law_136
theorem eL_law_138 : decode mL_law.2.1 138 = .ok (.iload 4, 2) := dL_law_138
theorem eL_law_140 : decode mL_law.2.1 140 = .ok (.if_icmp .ge 18, 3) := dL_law_140
theorem eL_law_143 : decode mL_law.2.1 143 = .ok (.aload 8, 2) := dL_law_143
theorem eL_law_145 : decode mL_law.2.1 145 = .ok (.iload 9, 2) := dL_law_145
theorem eL_law_147 : decode mL_law.2.1 147 = .ok (.iaload, 1) := dL_law_147
theorem eL_law_148 : decode mL_law.2.1 148 = .ok (.iconst (-1), 1) := dL_law_148
theorem eL_law_149 : decode mL_law.2.1 149 = .ok (.if_icmp .ne 9, 3) := dL_law_149
theorem eL_law_152 : decode mL_law.2.1 152 = .ok (.iinc 9 1, 3) := dL_law_152
theorem eL_law_155 : decode mL_law.2.1 155 = .ok (.goto (-19), 3) := dL_law_155
theorem eL_law_158 : decode mL_law.2.1 158 = .ok (.iload 9, 2) := dL_law_158
theorem eL_law_160 : decode mL_law.2.1 160 = .ok (.aload_n 1, 1) := dL_law_160
theorem eL_law_161 : decode mL_law.2.1 161 = .ok (.iload 6, 2) := dL_law_161
theorem eL_law_163 : decode mL_law.2.1 163 = .ok (.iconst 0, 1) := dL_law_163
theorem eL_law_164 : decode mL_law.2.1 164 = .ok (.invokevirtual 46, 3) := dL_law_164
theorem eL_law_167 : decode mL_law.2.1 167 = .ok (.if_icmp .eq 5, 3) := dL_law_167
theorem eL_law_170 : decode mL_law.2.1 170 = .ok (.iconst 0, 1) := dL_law_170
theorem eL_law_171 : decode mL_law.2.1 171 = .ok (.ireturn, 1) := dL_law_171
theorem eL_law_172 : decode mL_law.2.1 172 = .ok (.aload_n 1, 1) := dL_law_172
theorem eL_law_173 : decode mL_law.2.1 173 = .ok (.iload 6, 2) := dL_law_173
theorem eL_law_175 : decode mL_law.2.1 175 = .ok (.iconst 1, 1) := dL_law_175
theorem eL_law_176 : decode mL_law.2.1 176 = .ok (.invokevirtual 46, 3) := dL_law_176
theorem eL_law_179 : decode mL_law.2.1 179 = .ok (.istore 10, 2) := dL_law_179
theorem eL_law_181 : decode mL_law.2.1 181 = .ok (.aload_n 1, 1) := dL_law_181
theorem eL_law_182 : decode mL_law.2.1 182 = .ok (.iload 10, 2) := dL_law_182
theorem eL_law_184 : decode mL_law.2.1 184 = .ok (.iconst 1, 1) := dL_law_184
theorem eL_law_185 : decode mL_law.2.1 185 = .ok (.invokevirtual 46, 3) := dL_law_185
theorem eL_law_188 : decode mL_law.2.1 188 = .ok (.iload 10, 2) := dL_law_188
theorem eL_law_190 : decode mL_law.2.1 190 = .ok (.if_icmp .ne 29, 3) := dL_law_190
theorem eL_law_193 : decode mL_law.2.1 193 = .ok (.aload 8, 2) := dL_law_193
theorem eL_law_195 : decode mL_law.2.1 195 = .ok (.iconst 0, 1) := dL_law_195
theorem eL_law_196 : decode mL_law.2.1 196 = .ok (.iaload, 1) := dL_law_196
theorem eL_law_197 : decode mL_law.2.1 197 = .ok (.iconst (-1), 1) := dL_law_197
theorem eL_law_198 : decode mL_law.2.1 198 = .ok (.if_icmp .ne 7, 3) := dL_law_198
theorem eL_law_201 : decode mL_law.2.1 201 = .ok (.iconst 1, 1) := dL_law_201
theorem eL_law_202 : decode mL_law.2.1 202 = .ok (.goto 4, 3) := dL_law_202
theorem eL_law_205 : decode mL_law.2.1 205 = .ok (.iconst 0, 1) := dL_law_205
theorem eL_law_206 : decode mL_law.2.1 206 = .ok (.iload 10, 2) := dL_law_206
theorem eL_law_208 : decode mL_law.2.1 208 = .ok (.ifCond .ne 7, 3) := dL_law_208
theorem eL_law_211 : decode mL_law.2.1 211 = .ok (.iconst 1, 1) := dL_law_211
theorem eL_law_212 : decode mL_law.2.1 212 = .ok (.goto 4, 3) := dL_law_212
theorem eL_law_215 : decode mL_law.2.1 215 = .ok (.iconst 0, 1) := dL_law_215
theorem eL_law_216 : decode mL_law.2.1 216 = .ok (.if_icmp .eq 5, 3) := dL_law_216
theorem eL_law_219 : decode mL_law.2.1 219 = .ok (.iconst 0, 1) := dL_law_219
theorem eL_law_220 : decode mL_law.2.1 220 = .ok (.ireturn, 1) := dL_law_220
theorem eL_law_221 : decode mL_law.2.1 221 = .ok (.aload_n 1, 1) := dL_law_221
theorem eL_law_222 : decode mL_law.2.1 222 = .ok (.iload 6, 2) := dL_law_222
theorem eL_law_224 : decode mL_law.2.1 224 = .ok (.iconst 0, 1) := dL_law_224
theorem eL_law_225 : decode mL_law.2.1 225 = .ok (.invokevirtual 46, 3) := dL_law_225
theorem eL_law_228 : decode mL_law.2.1 228 = .ok (.ifCond .ne 107, 3) := dL_law_228
theorem eL_law_231 : decode mL_law.2.1 231 = .ok (.aload_n 1, 1) := dL_law_231
theorem eL_law_232 : decode mL_law.2.1 232 = .ok (.iload 6, 2) := dL_law_232
theorem eL_law_234 : decode mL_law.2.1 234 = .ok (.bipush 6, 2) := dL_law_234
theorem eL_law_236 : decode mL_law.2.1 236 = .ok (.invokevirtual 46, 3) := dL_law_236
theorem eL_law_239 : decode mL_law.2.1 239 = .ok (.istore 11, 2) := dL_law_239
theorem eL_law_241 : decode mL_law.2.1 241 = .ok (.aload_n 1, 1) := dL_law_241
theorem eL_law_242 : decode mL_law.2.1 242 = .ok (.iconst 2, 1) := dL_law_242
theorem eL_law_243 : decode mL_law.2.1 243 = .ok (.iload 10, 2) := dL_law_243
theorem eL_law_245 : decode mL_law.2.1 245 = .ok (.iload 11, 2) := dL_law_245
theorem eL_law_247 : decode mL_law.2.1 247 = .ok (.invokevirtual 49, 3) := dL_law_247
theorem eL_law_250 : decode mL_law.2.1 250 = .ok (.iload 6, 2) := dL_law_250
theorem eL_law_252 : decode mL_law.2.1 252 = .ok (.if_icmp .ne 14, 3) := dL_law_252
theorem eL_law_255 : decode mL_law.2.1 255 = .ok (.aload_n 1, 1) := dL_law_255
theorem eL_law_256 : decode mL_law.2.1 256 = .ok (.iload 11, 2) := dL_law_256
theorem eL_law_258 : decode mL_law.2.1 258 = .ok (.iconst 1, 1) := dL_law_258
theorem eL_law_259 : decode mL_law.2.1 259 = .ok (.invokevirtual 46, 3) := dL_law_259
theorem eL_law_262 : decode mL_law.2.1 262 = .ok (.iconst 1, 1) := dL_law_262
theorem eL_law_263 : decode mL_law.2.1 263 = .ok (.if_icmp .eq 5, 3) := dL_law_263
theorem eL_law_266 : decode mL_law.2.1 266 = .ok (.iconst 0, 1) := dL_law_266
theorem eL_law_267 : decode mL_law.2.1 267 = .ok (.ireturn, 1) := dL_law_267
theorem eL_law_268 : decode mL_law.2.1 268 = .ok (.aload_n 1, 1) := dL_law_268
theorem eL_law_269 : decode mL_law.2.1 269 = .ok (.iload 6, 2) := dL_law_269
theorem eL_law_271 : decode mL_law.2.1 271 = .ok (.bipush 8, 2) := dL_law_271
theorem eL_law_273 : decode mL_law.2.1 273 = .ok (.invokevirtual 46, 3) := dL_law_273
theorem eL_law_276 : decode mL_law.2.1 276 = .ok (.istore 12, 2) := dL_law_276
theorem eL_law_278 : decode mL_law.2.1 278 = .ok (.aload_n 1, 1) := dL_law_278
theorem eL_law_279 : decode mL_law.2.1 279 = .ok (.iconst 2, 1) := dL_law_279
theorem eL_law_280 : decode mL_law.2.1 280 = .ok (.iload 6, 2) := dL_law_280
theorem eL_law_282 : decode mL_law.2.1 282 = .ok (.iload 12, 2) := dL_law_282
theorem eL_law_284 : decode mL_law.2.1 284 = .ok (.invokevirtual 49, 3) := dL_law_284
theorem eL_law_287 : decode mL_law.2.1 287 = .ok (.iconst 1, 1) := dL_law_287
theorem eL_law_288 : decode mL_law.2.1 288 = .ok (.if_icmp .ne 42, 3) := dL_law_288
theorem eL_law_291 : decode mL_law.2.1 291 = .ok (.aload_n 1, 1) := dL_law_291
theorem eL_law_292 : decode mL_law.2.1 292 = .ok (.iconst 3, 1) := dL_law_292
theorem eL_law_293 : decode mL_law.2.1 293 = .ok (.iload 7, 2) := dL_law_293
theorem eL_law_295 : decode mL_law.2.1 295 = .ok (.iload 6, 2) := dL_law_295
theorem eL_law_297 : decode mL_law.2.1 297 = .ok (.invokevirtual 49, 3) := dL_law_297
theorem eL_law_300 : decode mL_law.2.1 300 = .ok (.aload_n 1, 1) := dL_law_300
theorem eL_law_301 : decode mL_law.2.1 301 = .ok (.iconst 2, 1) := dL_law_301
theorem eL_law_302 : decode mL_law.2.1 302 = .ok (.iload 7, 2) := dL_law_302
theorem eL_law_304 : decode mL_law.2.1 304 = .ok (.iload 12, 2) := dL_law_304
theorem eL_law_306 : decode mL_law.2.1 306 = .ok (.invokevirtual 49, 3) := dL_law_306
theorem eL_law_309 : decode mL_law.2.1 309 = .ok (.if_icmp .ne 21, 3) := dL_law_309
theorem eL_law_312 : decode mL_law.2.1 312 = .ok (.aload_n 1, 1) := dL_law_312
theorem eL_law_313 : decode mL_law.2.1 313 = .ok (.bipush 12, 2) := dL_law_313
theorem eL_law_315 : decode mL_law.2.1 315 = .ok (.invokevirtual 14, 3) := dL_law_315
theorem eL_law_318 : decode mL_law.2.1 318 = .ok (.aload_n 1, 1) := dL_law_318
theorem eL_law_319 : decode mL_law.2.1 319 = .ok (.iload 6, 2) := dL_law_319
theorem eL_law_321 : decode mL_law.2.1 321 = .ok (.bipush 7, 2) := dL_law_321
theorem eL_law_323 : decode mL_law.2.1 323 = .ok (.invokevirtual 46, 3) := dL_law_323
theorem eL_law_326 : decode mL_law.2.1 326 = .ok (.irem, 1) := dL_law_326
theorem eL_law_327 : decode mL_law.2.1 327 = .ok (.ifCond .eq 5, 3) := dL_law_327
theorem eL_law_330 : decode mL_law.2.1 330 = .ok (.iconst 0, 1) := dL_law_330
theorem eL_law_331 : decode mL_law.2.1 331 = .ok (.ireturn, 1) := dL_law_331
theorem eL_law_332 : decode mL_law.2.1 332 = .ok (.goto 41, 3) := dL_law_332
theorem eL_law_335 : decode mL_law.2.1 335 = .ok (.aload_n 1, 1) := dL_law_335
theorem eL_law_336 : decode mL_law.2.1 336 = .ok (.iload 6, 2) := dL_law_336
theorem eL_law_338 : decode mL_law.2.1 338 = .ok (.bipush 6, 2) := dL_law_338
theorem eL_law_340 : decode mL_law.2.1 340 = .ok (.invokevirtual 46, 3) := dL_law_340
theorem eL_law_343 : decode mL_law.2.1 343 = .ok (.iconst (-1), 1) := dL_law_343
theorem eL_law_344 : decode mL_law.2.1 344 = .ok (.if_icmp .ne 27, 3) := dL_law_344
theorem eL_law_347 : decode mL_law.2.1 347 = .ok (.aload_n 1, 1) := dL_law_347
theorem eL_law_348 : decode mL_law.2.1 348 = .ok (.iload 6, 2) := dL_law_348
theorem eL_law_350 : decode mL_law.2.1 350 = .ok (.bipush 7, 2) := dL_law_350
theorem eL_law_352 : decode mL_law.2.1 352 = .ok (.invokevirtual 46, 3) := dL_law_352
theorem eL_law_355 : decode mL_law.2.1 355 = .ok (.iconst (-1), 1) := dL_law_355
theorem eL_law_356 : decode mL_law.2.1 356 = .ok (.if_icmp .ne 15, 3) := dL_law_356
theorem eL_law_359 : decode mL_law.2.1 359 = .ok (.aload_n 1, 1) := dL_law_359
theorem eL_law_360 : decode mL_law.2.1 360 = .ok (.iload 6, 2) := dL_law_360
theorem eL_law_362 : decode mL_law.2.1 362 = .ok (.bipush 8, 2) := dL_law_362
theorem eL_law_364 : decode mL_law.2.1 364 = .ok (.invokevirtual 46, 3) := dL_law_364
theorem eL_law_367 : decode mL_law.2.1 367 = .ok (.iconst (-1), 1) := dL_law_367
theorem eL_law_368 : decode mL_law.2.1 368 = .ok (.if_icmp .eq 5, 3) := dL_law_368
theorem eL_law_371 : decode mL_law.2.1 371 = .ok (.iconst 0, 1) := dL_law_371
theorem eL_law_372 : decode mL_law.2.1 372 = .ok (.ireturn, 1) := dL_law_372
theorem eL_law_373 : decode mL_law.2.1 373 = .ok (.aload_n 1, 1) := dL_law_373
theorem eL_law_374 : decode mL_law.2.1 374 = .ok (.iconst 0, 1) := dL_law_374
theorem eL_law_375 : decode mL_law.2.1 375 = .ok (.iload 6, 2) := dL_law_375
theorem eL_law_377 : decode mL_law.2.1 377 = .ok (.iload 7, 2) := dL_law_377
theorem eL_law_379 : decode mL_law.2.1 379 = .ok (.invokevirtual 49, 3) := dL_law_379
theorem eL_law_382 : decode mL_law.2.1 382 = .ok (.istore 11, 2) := dL_law_382
theorem eL_law_384 : decode mL_law.2.1 384 = .ok (.aload_n 1, 1) := dL_law_384
theorem eL_law_385 : decode mL_law.2.1 385 = .ok (.iconst 2, 1) := dL_law_385
theorem eL_law_386 : decode mL_law.2.1 386 = .ok (.iload 6, 2) := dL_law_386
theorem eL_law_388 : decode mL_law.2.1 388 = .ok (.iload 7, 2) := dL_law_388
theorem eL_law_390 : decode mL_law.2.1 390 = .ok (.invokevirtual 49, 3) := dL_law_390
theorem eL_law_393 : decode mL_law.2.1 393 = .ok (.istore 12, 2) := dL_law_393
theorem eL_law_395 : decode mL_law.2.1 395 = .ok (.aload_n 1, 1) := dL_law_395
theorem eL_law_396 : decode mL_law.2.1 396 = .ok (.iload 11, 2) := dL_law_396
theorem eL_law_398 : decode mL_law.2.1 398 = .ok (.iconst 2, 1) := dL_law_398
theorem eL_law_399 : decode mL_law.2.1 399 = .ok (.invokevirtual 46, 3) := dL_law_399
theorem eL_law_402 : decode mL_law.2.1 402 = .ok (.aload_n 1, 1) := dL_law_402
theorem eL_law_403 : decode mL_law.2.1 403 = .ok (.iconst 0, 1) := dL_law_403
theorem eL_law_404 : decode mL_law.2.1 404 = .ok (.aload_n 1, 1) := dL_law_404
theorem eL_law_405 : decode mL_law.2.1 405 = .ok (.iload 6, 2) := dL_law_405
theorem eL_law_407 : decode mL_law.2.1 407 = .ok (.iconst 2, 1) := dL_law_407
theorem eL_law_408 : decode mL_law.2.1 408 = .ok (.invokevirtual 46, 3) := dL_law_408
theorem eL_law_411 : decode mL_law.2.1 411 = .ok (.aload_n 1, 1) := dL_law_411
theorem eL_law_412 : decode mL_law.2.1 412 = .ok (.iload 7, 2) := dL_law_412
theorem eL_law_414 : decode mL_law.2.1 414 = .ok (.iconst 2, 1) := dL_law_414
theorem eL_law_415 : decode mL_law.2.1 415 = .ok (.invokevirtual 46, 3) := dL_law_415
theorem eL_law_418 : decode mL_law.2.1 418 = .ok (.invokevirtual 49, 3) := dL_law_418
theorem eL_law_421 : decode mL_law.2.1 421 = .ok (.if_icmp .ne 32, 3) := dL_law_421
theorem eL_law_424 : decode mL_law.2.1 424 = .ok (.aload_n 1, 1) := dL_law_424
theorem eL_law_425 : decode mL_law.2.1 425 = .ok (.iload 12, 2) := dL_law_425
theorem eL_law_427 : decode mL_law.2.1 427 = .ok (.iconst 2, 1) := dL_law_427
theorem eL_law_428 : decode mL_law.2.1 428 = .ok (.invokevirtual 46, 3) := dL_law_428
theorem eL_law_431 : decode mL_law.2.1 431 = .ok (.aload_n 1, 1) := dL_law_431
theorem eL_law_432 : decode mL_law.2.1 432 = .ok (.iconst 2, 1) := dL_law_432
theorem eL_law_433 : decode mL_law.2.1 433 = .ok (.aload_n 1, 1) := dL_law_433
theorem eL_law_434 : decode mL_law.2.1 434 = .ok (.iload 6, 2) := dL_law_434
theorem eL_law_436 : decode mL_law.2.1 436 = .ok (.iconst 2, 1) := dL_law_436
theorem eL_law_437 : decode mL_law.2.1 437 = .ok (.invokevirtual 46, 3) := dL_law_437
theorem eL_law_440 : decode mL_law.2.1 440 = .ok (.aload_n 1, 1) := dL_law_440
theorem eL_law_441 : decode mL_law.2.1 441 = .ok (.iload 7, 2) := dL_law_441
theorem eL_law_443 : decode mL_law.2.1 443 = .ok (.iconst 2, 1) := dL_law_443
theorem eL_law_444 : decode mL_law.2.1 444 = .ok (.invokevirtual 46, 3) := dL_law_444
theorem eL_law_447 : decode mL_law.2.1 447 = .ok (.invokevirtual 49, 3) := dL_law_447
theorem eL_law_450 : decode mL_law.2.1 450 = .ok (.if_icmp .eq 5, 3) := dL_law_450
theorem eL_law_453 : decode mL_law.2.1 453 = .ok (.iconst 0, 1) := dL_law_453
theorem eL_law_454 : decode mL_law.2.1 454 = .ok (.ireturn, 1) := dL_law_454
theorem eL_law_455 : decode mL_law.2.1 455 = .ok (.aload_n 1, 1) := dL_law_455
theorem eL_law_456 : decode mL_law.2.1 456 = .ok (.iload 6, 2) := dL_law_456
theorem eL_law_458 : decode mL_law.2.1 458 = .ok (.iconst 3, 1) := dL_law_458
theorem eL_law_459 : decode mL_law.2.1 459 = .ok (.invokevirtual 46, 3) := dL_law_459
theorem eL_law_462 : decode mL_law.2.1 462 = .ok (.iload 5, 2) := dL_law_462
theorem eL_law_464 : decode mL_law.2.1 464 = .ok (.if_icmp .ge 71, 3) := dL_law_464
theorem eL_law_467 : decode mL_law.2.1 467 = .ok (.aload_n 1, 1) := dL_law_467
theorem eL_law_468 : decode mL_law.2.1 468 = .ok (.iload 6, 2) := dL_law_468
theorem eL_law_470 : decode mL_law.2.1 470 = .ok (.iconst 4, 1) := dL_law_470
theorem eL_law_471 : decode mL_law.2.1 471 = .ok (.invokevirtual 46, 3) := dL_law_471
theorem eL_law_474 : decode mL_law.2.1 474 = .ok (.iload 5, 2) := dL_law_474
theorem eL_law_476 : decode mL_law.2.1 476 = .ok (.if_icmp .ge 59, 3) := dL_law_476
theorem eL_law_479 : decode mL_law.2.1 479 = .ok (.aload_n 1, 1) := dL_law_479
theorem eL_law_480 : decode mL_law.2.1 480 = .ok (.iload 11, 2) := dL_law_480
theorem eL_law_482 : decode mL_law.2.1 482 = .ok (.iconst 3, 1) := dL_law_482
theorem eL_law_483 : decode mL_law.2.1 483 = .ok (.invokevirtual 46, 3) := dL_law_483
theorem eL_law_486 : decode mL_law.2.1 486 = .ok (.aload_n 1, 1) := dL_law_486
theorem eL_law_487 : decode mL_law.2.1 487 = .ok (.iload 6, 2) := dL_law_487
theorem eL_law_489 : decode mL_law.2.1 489 = .ok (.iconst 3, 1) := dL_law_489
theorem eL_law_490 : decode mL_law.2.1 490 = .ok (.invokevirtual 46, 3) := dL_law_490
theorem eL_law_493 : decode mL_law.2.1 493 = .ok (.aload_n 1, 1) := dL_law_493
theorem eL_law_494 : decode mL_law.2.1 494 = .ok (.iload 7, 2) := dL_law_494
theorem eL_law_496 : decode mL_law.2.1 496 = .ok (.iconst 3, 1) := dL_law_496
theorem eL_law_497 : decode mL_law.2.1 497 = .ok (.invokevirtual 46, 3) := dL_law_497
theorem eL_law_500 : decode mL_law.2.1 500 = .ok (.iadd, 1) := dL_law_500
theorem eL_law_501 : decode mL_law.2.1 501 = .ok (.iload 5, 2) := dL_law_501
theorem eL_law_503 : decode mL_law.2.1 503 = .ok (.irem, 1) := dL_law_503
theorem eL_law_504 : decode mL_law.2.1 504 = .ok (.if_icmp .ne 31, 3) := dL_law_504
theorem eL_law_507 : decode mL_law.2.1 507 = .ok (.aload_n 1, 1) := dL_law_507
theorem eL_law_508 : decode mL_law.2.1 508 = .ok (.iload 12, 2) := dL_law_508
theorem eL_law_510 : decode mL_law.2.1 510 = .ok (.iconst 4, 1) := dL_law_510
theorem eL_law_511 : decode mL_law.2.1 511 = .ok (.invokevirtual 46, 3) := dL_law_511
theorem eL_law_514 : decode mL_law.2.1 514 = .ok (.aload_n 1, 1) := dL_law_514
theorem eL_law_515 : decode mL_law.2.1 515 = .ok (.iload 6, 2) := dL_law_515
theorem eL_law_517 : decode mL_law.2.1 517 = .ok (.iconst 4, 1) := dL_law_517
theorem eL_law_518 : decode mL_law.2.1 518 = .ok (.invokevirtual 46, 3) := dL_law_518
theorem eL_law_521 : decode mL_law.2.1 521 = .ok (.aload_n 1, 1) := dL_law_521
theorem eL_law_522 : decode mL_law.2.1 522 = .ok (.iload 7, 2) := dL_law_522
theorem eL_law_524 : decode mL_law.2.1 524 = .ok (.iconst 4, 1) := dL_law_524
theorem eL_law_525 : decode mL_law.2.1 525 = .ok (.invokevirtual 46, 3) := dL_law_525
theorem eL_law_528 : decode mL_law.2.1 528 = .ok (.imul, 1) := dL_law_528
theorem eL_law_529 : decode mL_law.2.1 529 = .ok (.iload 5, 2) := dL_law_529
theorem eL_law_531 : decode mL_law.2.1 531 = .ok (.irem, 1) := dL_law_531
theorem eL_law_532 : decode mL_law.2.1 532 = .ok (.if_icmp .eq 5, 3) := dL_law_532
theorem eL_law_535 : decode mL_law.2.1 535 = .ok (.iconst 0, 1) := dL_law_535
theorem eL_law_536 : decode mL_law.2.1 536 = .ok (.ireturn, 1) := dL_law_536
theorem eL_law_537 : decode mL_law.2.1 537 = .ok (.iload 6, 2) := dL_law_537
theorem eL_law_539 : decode mL_law.2.1 539 = .ok (.istore 13, 2) := dL_law_539
theorem eL_law_541 : decode mL_law.2.1 541 = .ok (.iconst 0, 1) := dL_law_541
theorem eL_law_542 : decode mL_law.2.1 542 = .ok (.istore 14, 2) := dL_law_542
theorem eL_law_544 : decode mL_law.2.1 544 = .ok (.iload 14, 2) := dL_law_544
theorem eL_law_546 : decode mL_law.2.1 546 = .ok (.iload_n 3, 1) := dL_law_546
theorem eL_law_547 : decode mL_law.2.1 547 = .ok (.if_icmp .ge 18, 3) := dL_law_547
theorem eL_law_550 : decode mL_law.2.1 550 = .ok (.aload_n 1, 1) := dL_law_550
theorem eL_law_551 : decode mL_law.2.1 551 = .ok (.iload 13, 2) := dL_law_551
theorem eL_law_553 : decode mL_law.2.1 553 = .ok (.iconst 2, 1) := dL_law_553
theorem eL_law_554 : decode mL_law.2.1 554 = .ok (.invokevirtual 46, 3) := dL_law_554
theorem eL_law_557 : decode mL_law.2.1 557 = .ok (.istore 13, 2) := dL_law_557
theorem eL_law_559 : decode mL_law.2.1 559 = .ok (.iinc 14 1, 3) := dL_law_559
theorem eL_law_562 : decode mL_law.2.1 562 = .ok (.goto (-18), 3) := dL_law_562
theorem eL_law_565 : decode mL_law.2.1 565 = .ok (.iload 13, 2) := dL_law_565
theorem eL_law_567 : decode mL_law.2.1 567 = .ok (.iload 6, 2) := dL_law_567
theorem eL_law_569 : decode mL_law.2.1 569 = .ok (.if_icmp .eq 5, 3) := dL_law_569
theorem eL_law_572 : decode mL_law.2.1 572 = .ok (.iconst 0, 1) := dL_law_572
theorem eL_law_573 : decode mL_law.2.1 573 = .ok (.ireturn, 1) := dL_law_573
theorem eL_law_574 : decode mL_law.2.1 574 = .ok (.aload_n 0, 1) := dL_law_574
theorem eL_law_575 : decode mL_law.2.1 575 = .ok (.iconst 3, 1) := dL_law_575
theorem eL_law_576 : decode mL_law.2.1 576 = .ok (.invokestatic 29, 3) := dL_law_576
theorem eL_law_579 : decode mL_law.2.1 579 = .ok (.iconst 1, 1) := dL_law_579
theorem eL_law_580 : decode mL_law.2.1 580 = .ok (.aload_n 1, 1) := dL_law_580
theorem eL_law_581 : decode mL_law.2.1 581 = .ok (.iconst 4, 1) := dL_law_581
theorem eL_law_582 : decode mL_law.2.1 582 = .ok (.invokevirtual 14, 3) := dL_law_582
theorem eL_law_585 : decode mL_law.2.1 585 = .ok (.iconst 1, 1) := dL_law_585
theorem eL_law_586 : decode mL_law.2.1 586 = .ok (.isub, 1) := dL_law_586
theorem eL_law_587 : decode mL_law.2.1 587 = .ok (.invokestatic 52, 3) := dL_law_587
theorem eL_law_590 : decode mL_law.2.1 590 = .ok (.irem, 1) := dL_law_590
theorem eL_law_591 : decode mL_law.2.1 591 = .ok (.istore 14, 2) := dL_law_591
theorem eL_law_593 : decode mL_law.2.1 593 = .ok (.iconst 4, 1) := dL_law_593
theorem eL_law_594 : decode mL_law.2.1 594 = .ok (.newarray .int, 2) := dL_law_594
theorem eL_law_596 : decode mL_law.2.1 596 = .ok (.dup, 1) := dL_law_596
theorem eL_law_597 : decode mL_law.2.1 597 = .ok (.iconst 0, 1) := dL_law_597
theorem eL_law_598 : decode mL_law.2.1 598 = .ok (.iload 14, 2) := dL_law_598
theorem eL_law_600 : decode mL_law.2.1 600 = .ok (.iastore, 1) := dL_law_600
theorem eL_law_601 : decode mL_law.2.1 601 = .ok (.dup, 1) := dL_law_601
theorem eL_law_602 : decode mL_law.2.1 602 = .ok (.iconst 1, 1) := dL_law_602
theorem eL_law_603 : decode mL_law.2.1 603 = .ok (.iconst (-1), 1) := dL_law_603
theorem eL_law_604 : decode mL_law.2.1 604 = .ok (.iastore, 1) := dL_law_604
theorem eL_law_605 : decode mL_law.2.1 605 = .ok (.dup, 1) := dL_law_605
theorem eL_law_606 : decode mL_law.2.1 606 = .ok (.iconst 2, 1) := dL_law_606
theorem eL_law_607 : decode mL_law.2.1 607 = .ok (.iconst (-1), 1) := dL_law_607
theorem eL_law_608 : decode mL_law.2.1 608 = .ok (.iastore, 1) := dL_law_608
theorem eL_law_609 : decode mL_law.2.1 609 = .ok (.dup, 1) := dL_law_609
theorem eL_law_610 : decode mL_law.2.1 610 = .ok (.iconst 3, 1) := dL_law_610
theorem eL_law_611 : decode mL_law.2.1 611 = .ok (.iconst (-1), 1) := dL_law_611
theorem eL_law_612 : decode mL_law.2.1 612 = .ok (.iastore, 1) := dL_law_612
theorem eL_law_613 : decode mL_law.2.1 613 = .ok (.astore 15, 2) := dL_law_613
theorem eL_law_615 : decode mL_law.2.1 615 = .ok (.aload_n 1, 1) := dL_law_615
theorem eL_law_616 : decode mL_law.2.1 616 = .ok (.iconst 0, 1) := dL_law_616
theorem eL_law_617 : decode mL_law.2.1 617 = .ok (.iconst 1, 1) := dL_law_617
theorem eL_law_618 : decode mL_law.2.1 618 = .ok (.aload_n 1, 1) := dL_law_618
theorem eL_law_619 : decode mL_law.2.1 619 = .ok (.aload 15, 2) := dL_law_619
theorem eL_law_621 : decode mL_law.2.1 621 = .ok (.iconst 0, 1) := dL_law_621
theorem eL_law_622 : decode mL_law.2.1 622 = .ok (.iaload, 1) := dL_law_622
theorem eL_law_623 : decode mL_law.2.1 623 = .ok (.aload 15, 2) := dL_law_623
theorem eL_law_625 : decode mL_law.2.1 625 = .ok (.iconst 1, 1) := dL_law_625
theorem eL_law_626 : decode mL_law.2.1 626 = .ok (.iaload, 1) := dL_law_626
theorem eL_law_627 : decode mL_law.2.1 627 = .ok (.aload 15, 2) := dL_law_627
theorem eL_law_629 : decode mL_law.2.1 629 = .ok (.iconst 2, 1) := dL_law_629
theorem eL_law_630 : decode mL_law.2.1 630 = .ok (.iaload, 1) := dL_law_630
theorem eL_law_631 : decode mL_law.2.1 631 = .ok (.aload 15, 2) := dL_law_631
theorem eL_law_633 : decode mL_law.2.1 633 = .ok (.iconst 3, 1) := dL_law_633
theorem eL_law_634 : decode mL_law.2.1 634 = .ok (.iaload, 1) := dL_law_634
theorem eL_law_635 : decode mL_law.2.1 635 = .ok (.invokevirtual 42, 3) := dL_law_635
theorem eL_law_638 : decode mL_law.2.1 638 = .ok (.invokevirtual 49, 3) := dL_law_638
theorem eL_law_641 : decode mL_law.2.1 641 = .ok (.istore 16, 2) := dL_law_641
theorem eL_law_643 : decode mL_law.2.1 643 = .ok (.iconst 0, 1) := dL_law_643
theorem eL_law_644 : decode mL_law.2.1 644 = .ok (.istore 17, 2) := dL_law_644
theorem eL_law_646 : decode mL_law.2.1 646 = .ok (.iload 17, 2) := dL_law_646
theorem eL_law_648 : decode mL_law.2.1 648 = .ok (.iload 4, 2) := dL_law_648
theorem eL_law_650 : decode mL_law.2.1 650 = .ok (.if_icmp .ge 30, 3) := dL_law_650
theorem eL_law_653 : decode mL_law.2.1 653 = .ok (.aload_n 1, 1) := dL_law_653
theorem eL_law_654 : decode mL_law.2.1 654 = .ok (.iload 14, 2) := dL_law_654
theorem eL_law_656 : decode mL_law.2.1 656 = .ok (.iload 17, 2) := dL_law_656
theorem eL_law_658 : decode mL_law.2.1 658 = .ok (.invokevirtual 55, 3) := dL_law_658
theorem eL_law_661 : decode mL_law.2.1 661 = .ok (.aload_n 1, 1) := dL_law_661
theorem eL_law_662 : decode mL_law.2.1 662 = .ok (.iload 16, 2) := dL_law_662
theorem eL_law_664 : decode mL_law.2.1 664 = .ok (.iload 17, 2) := dL_law_664
theorem eL_law_666 : decode mL_law.2.1 666 = .ok (.invokevirtual 39, 3) := dL_law_666
theorem eL_law_669 : decode mL_law.2.1 669 = .ok (.if_icmp .eq 5, 3) := dL_law_669
theorem eL_law_672 : decode mL_law.2.1 672 = .ok (.iconst 0, 1) := dL_law_672
theorem eL_law_673 : decode mL_law.2.1 673 = .ok (.ireturn, 1) := dL_law_673
theorem eL_law_674 : decode mL_law.2.1 674 = .ok (.iinc 17 1, 3) := dL_law_674
theorem eL_law_677 : decode mL_law.2.1 677 = .ok (.goto (-31), 3) := dL_law_677
theorem eL_law_680 : decode mL_law.2.1 680 = .ok (.aload_n 1, 1) := dL_law_680
theorem eL_law_681 : decode mL_law.2.1 681 = .ok (.aload_n 0, 1) := dL_law_681
theorem eL_law_682 : decode mL_law.2.1 682 = .ok (.iconst 4, 1) := dL_law_682
theorem eL_law_683 : decode mL_law.2.1 683 = .ok (.invokestatic 29, 3) := dL_law_683
theorem eL_law_686 : decode mL_law.2.1 686 = .ok (.invokestatic 58, 3) := dL_law_686
theorem eL_law_689 : decode mL_law.2.1 689 = .ok (.istore 17, 2) := dL_law_689
theorem eL_law_691 : decode mL_law.2.1 691 = .ok (.aload_n 1, 1) := dL_law_691
theorem eL_law_692 : decode mL_law.2.1 692 = .ok (.iload 17, 2) := dL_law_692
theorem eL_law_694 : decode mL_law.2.1 694 = .ok (.iconst (-1), 1) := dL_law_694
theorem eL_law_695 : decode mL_law.2.1 695 = .ok (.iconst 0, 1) := dL_law_695
theorem eL_law_696 : decode mL_law.2.1 696 = .ok (.invokevirtual 61, 3) := dL_law_696
theorem eL_law_699 : decode mL_law.2.1 699 = .ok (.istore 18, 2) := dL_law_699
theorem eL_law_701 : decode mL_law.2.1 701 = .ok (.aload_n 0, 1) := dL_law_701
theorem eL_law_702 : decode mL_law.2.1 702 = .ok (.iconst 5, 1) := dL_law_702
theorem eL_law_703 : decode mL_law.2.1 703 = .ok (.invokestatic 29, 3) := dL_law_703
theorem eL_law_706 : decode mL_law.2.1 706 = .ok (.iconst 1, 1) := dL_law_706
theorem eL_law_707 : decode mL_law.2.1 707 = .ok (.iload 18, 2) := dL_law_707
theorem eL_law_709 : decode mL_law.2.1 709 = .ok (.bipush 20, 2) := dL_law_709
theorem eL_law_711 : decode mL_law.2.1 711 = .ok (.invokestatic 18, 3) := dL_law_711
theorem eL_law_714 : decode mL_law.2.1 714 = .ok (.ishl, 1) := dL_law_714
theorem eL_law_715 : decode mL_law.2.1 715 = .ok (.irem, 1) := dL_law_715
theorem eL_law_716 : decode mL_law.2.1 716 = .ok (.istore 19, 2) := dL_law_716
theorem eL_law_718 : decode mL_law.2.1 718 = .ok (.aload_n 1, 1) := dL_law_718
theorem eL_law_719 : decode mL_law.2.1 719 = .ok (.iload 17, 2) := dL_law_719
theorem eL_law_721 : decode mL_law.2.1 721 = .ok (.iload 19, 2) := dL_law_721
theorem eL_law_723 : decode mL_law.2.1 723 = .ok (.invokevirtual 64, 3) := dL_law_723
theorem eL_law_726 : decode mL_law.2.1 726 = .ok (.istore 20, 2) := dL_law_726
theorem eL_law_728 : decode mL_law.2.1 728 = .ok (.aload_n 1, 1) := dL_law_728
theorem eL_law_729 : decode mL_law.2.1 729 = .ok (.iconst 0, 1) := dL_law_729
theorem eL_law_730 : decode mL_law.2.1 730 = .ok (.iconst (-1), 1) := dL_law_730
theorem eL_law_731 : decode mL_law.2.1 731 = .ok (.invokevirtual 67, 3) := dL_law_731
theorem eL_law_734 : decode mL_law.2.1 734 = .ok (.istore 21, 2) := dL_law_734
theorem eL_law_736 : decode mL_law.2.1 736 = .ok (.aload_n 1, 1) := dL_law_736
theorem eL_law_737 : decode mL_law.2.1 737 = .ok (.iconst 1, 1) := dL_law_737
theorem eL_law_738 : decode mL_law.2.1 738 = .ok (.iconst (-1), 1) := dL_law_738
theorem eL_law_739 : decode mL_law.2.1 739 = .ok (.invokevirtual 67, 3) := dL_law_739
theorem eL_law_742 : decode mL_law.2.1 742 = .ok (.istore 22, 2) := dL_law_742
theorem eL_law_744 : decode mL_law.2.1 744 = .ok (.iload 20, 2) := dL_law_744
theorem eL_law_746 : decode mL_law.2.1 746 = .ok (.iload 17, 2) := dL_law_746
theorem eL_law_748 : decode mL_law.2.1 748 = .ok (.iload 21, 2) := dL_law_748
theorem eL_law_750 : decode mL_law.2.1 750 = .ok (.isub, 1) := dL_law_750
theorem eL_law_751 : decode mL_law.2.1 751 = .ok (.if_icmp .ne 13, 3) := dL_law_751
theorem eL_law_754 : decode mL_law.2.1 754 = .ok (.iload 21, 2) := dL_law_754
theorem eL_law_756 : decode mL_law.2.1 756 = .ok (.iload 22, 2) := dL_law_756
theorem eL_law_758 : decode mL_law.2.1 758 = .ok (.iadd, 1) := dL_law_758
theorem eL_law_759 : decode mL_law.2.1 759 = .ok (.iload 17, 2) := dL_law_759
theorem eL_law_761 : decode mL_law.2.1 761 = .ok (.if_icmp .eq 5, 3) := dL_law_761
theorem eL_law_764 : decode mL_law.2.1 764 = .ok (.iconst 0, 1) := dL_law_764
theorem eL_law_765 : decode mL_law.2.1 765 = .ok (.ireturn, 1) := dL_law_765
theorem eL_law_766 : decode mL_law.2.1 766 = .ok (.iconst 0, 1) := dL_law_766
theorem eL_law_767 : decode mL_law.2.1 767 = .ok (.istore 23, 2) := dL_law_767
theorem eL_law_769 : decode mL_law.2.1 769 = .ok (.iload 23, 2) := dL_law_769
theorem eL_law_771 : decode mL_law.2.1 771 = .ok (.iload 17, 2) := dL_law_771
theorem eL_law_773 : decode mL_law.2.1 773 = .ok (.if_icmp .gt 101, 3) := dL_law_773
theorem eL_law_776 : decode mL_law.2.1 776 = .ok (.iconst 0, 1) := dL_law_776
theorem eL_law_777 : decode mL_law.2.1 777 = .ok (.istore 24, 2) := dL_law_777
theorem eL_law_779 : decode mL_law.2.1 779 = .ok (.iconst 0, 1) := dL_law_779
theorem eL_law_780 : decode mL_law.2.1 780 = .ok (.iload 23, 2) := dL_law_780
theorem eL_law_782 : decode mL_law.2.1 782 = .ok (.iload 22, 2) := dL_law_782
theorem eL_law_784 : decode mL_law.2.1 784 = .ok (.isub, 1) := dL_law_784
theorem eL_law_785 : decode mL_law.2.1 785 = .ok (.invokestatic 52, 3) := dL_law_785
theorem eL_law_788 : decode mL_law.2.1 788 = .ok (.istore 25, 2) := dL_law_788
theorem eL_law_790 : decode mL_law.2.1 790 = .ok (.iload 25, 2) := dL_law_790
theorem eL_law_792 : decode mL_law.2.1 792 = .ok (.iload 23, 2) := dL_law_792
theorem eL_law_794 : decode mL_law.2.1 794 = .ok (.iload 21, 2) := dL_law_794
theorem eL_law_796 : decode mL_law.2.1 796 = .ok (.invokestatic 18, 3) := dL_law_796
theorem eL_law_799 : decode mL_law.2.1 799 = .ok (.if_icmp .gt 35, 3) := dL_law_799
theorem eL_law_802 : decode mL_law.2.1 802 = .ok (.iload 24, 2) := dL_law_802
theorem eL_law_804 : decode mL_law.2.1 804 = .ok (.aload_n 1, 1) := dL_law_804
theorem eL_law_805 : decode mL_law.2.1 805 = .ok (.iconst 0, 1) := dL_law_805
theorem eL_law_806 : decode mL_law.2.1 806 = .ok (.iload 25, 2) := dL_law_806
theorem eL_law_808 : decode mL_law.2.1 808 = .ok (.invokevirtual 67, 3) := dL_law_808
theorem eL_law_811 : decode mL_law.2.1 811 = .ok (.aload_n 1, 1) := dL_law_811
theorem eL_law_812 : decode mL_law.2.1 812 = .ok (.iconst 1, 1) := dL_law_812
theorem eL_law_813 : decode mL_law.2.1 813 = .ok (.iload 23, 2) := dL_law_813
theorem eL_law_815 : decode mL_law.2.1 815 = .ok (.iload 25, 2) := dL_law_815
theorem eL_law_817 : decode mL_law.2.1 817 = .ok (.isub, 1) := dL_law_817
theorem eL_law_818 : decode mL_law.2.1 818 = .ok (.invokevirtual 67, 3) := dL_law_818
theorem eL_law_821 : decode mL_law.2.1 821 = .ok (.imul, 1) := dL_law_821
theorem eL_law_822 : decode mL_law.2.1 822 = .ok (.iadd, 1) := dL_law_822
theorem eL_law_823 : decode mL_law.2.1 823 = .ok (.iload 5, 2) := dL_law_823
theorem eL_law_825 : decode mL_law.2.1 825 = .ok (.irem, 1) := dL_law_825
theorem eL_law_826 : decode mL_law.2.1 826 = .ok (.istore 24, 2) := dL_law_826
theorem eL_law_828 : decode mL_law.2.1 828 = .ok (.iinc 25 1, 3) := dL_law_828
theorem eL_law_831 : decode mL_law.2.1 831 = .ok (.goto (-41), 3) := dL_law_831
theorem eL_law_834 : decode mL_law.2.1 834 = .ok (.iload 24, 2) := dL_law_834
theorem eL_law_836 : decode mL_law.2.1 836 = .ok (.iload 23, 2) := dL_law_836
theorem eL_law_838 : decode mL_law.2.1 838 = .ok (.iload 17, 2) := dL_law_838
theorem eL_law_840 : decode mL_law.2.1 840 = .ok (.if_icmp .ne 10, 3) := dL_law_840
theorem eL_law_843 : decode mL_law.2.1 843 = .ok (.iconst 1, 1) := dL_law_843
theorem eL_law_844 : decode mL_law.2.1 844 = .ok (.iload 5, 2) := dL_law_844
theorem eL_law_846 : decode mL_law.2.1 846 = .ok (.irem, 1) := dL_law_846
theorem eL_law_847 : decode mL_law.2.1 847 = .ok (.goto 16, 3) := dL_law_847
theorem eL_law_850 : decode mL_law.2.1 850 = .ok (.iload 23, 2) := dL_law_850
theorem eL_law_852 : decode mL_law.2.1 852 = .ok (.ifCond .ne 10, 3) := dL_law_852
theorem eL_law_855 : decode mL_law.2.1 855 = .ok (.iload 5, 2) := dL_law_855
theorem eL_law_857 : decode mL_law.2.1 857 = .ok (.iconst 1, 1) := dL_law_857
theorem eL_law_858 : decode mL_law.2.1 858 = .ok (.isub, 1) := dL_law_858
theorem eL_law_859 : decode mL_law.2.1 859 = .ok (.goto 4, 3) := dL_law_859
theorem eL_law_862 : decode mL_law.2.1 862 = .ok (.iconst 0, 1) := dL_law_862
theorem eL_law_863 : decode mL_law.2.1 863 = .ok (.if_icmp .eq 5, 3) := dL_law_863
theorem eL_law_866 : decode mL_law.2.1 866 = .ok (.iconst 0, 1) := dL_law_866
theorem eL_law_867 : decode mL_law.2.1 867 = .ok (.ireturn, 1) := dL_law_867
theorem eL_law_868 : decode mL_law.2.1 868 = .ok (.iinc 23 1, 3) := dL_law_868
theorem eL_law_871 : decode mL_law.2.1 871 = .ok (.goto (-102), 3) := dL_law_871
theorem eL_law_874 : decode mL_law.2.1 874 = .ok (.iconst 1, 1) := dL_law_874
theorem eL_law_875 : decode mL_law.2.1 875 = .ok (.ireturn, 1) := dL_law_875
theorem eL_cell_0 : decode mL_cell.2.1 0 = .ok (.iload_n 1, 1) := dL_cell_0
theorem eL_cell_1 : decode mL_cell.2.1 1 = .ok (.aload_n 0, 1) := dL_cell_1
theorem eL_cell_2 : decode mL_cell.2.1 2 = .ok (.arraylength, 1) := dL_cell_2
theorem eL_cell_3 : decode mL_cell.2.1 3 = .ok (.if_icmp .ge 12, 3) := dL_cell_3
theorem eL_cell_6 : decode mL_cell.2.1 6 = .ok (.aload_n 0, 1) := dL_cell_6
theorem eL_cell_7 : decode mL_cell.2.1 7 = .ok (.iload_n 1, 1) := dL_cell_7
theorem eL_cell_8 : decode mL_cell.2.1 8 = .ok (.iaload, 1) := dL_cell_8
theorem eL_cell_9 : decode mL_cell.2.1 9 = .ok (.ldc 7, 2) := dL_cell_9
theorem eL_cell_11 : decode mL_cell.2.1 11 = .ok (.iand, 1) := dL_cell_11
theorem eL_cell_12 : decode mL_cell.2.1 12 = .ok (.goto 4, 3) := dL_cell_12
theorem eL_cell_15 : decode mL_cell.2.1 15 = .ok (.iconst 0, 1) := dL_cell_15
theorem eL_cell_16 : decode mL_cell.2.1 16 = .ok (.ireturn, 1) := dL_cell_16
theorem eL_rings_0 : decode mL_rings.2.1 0 = .ok (.bipush 36, 2) := dL_rings_0
theorem eL_rings_2 : decode mL_rings.2.1 2 = .ok (.newarray .int, 2) := dL_rings_2
theorem eL_rings_4 : decode mL_rings.2.1 4 = .ok (.dup, 1) := dL_rings_4
theorem eL_rings_5 : decode mL_rings.2.1 5 = .ok (.iconst 0, 1) := dL_rings_5
theorem eL_rings_6 : decode mL_rings.2.1 6 = .ok (.iconst 2, 1) := dL_rings_6
theorem eL_rings_7 : decode mL_rings.2.1 7 = .ok (.iastore, 1) := dL_rings_7
theorem eL_rings_8 : decode mL_rings.2.1 8 = .ok (.dup, 1) := dL_rings_8
theorem eL_rings_9 : decode mL_rings.2.1 9 = .ok (.iconst 1, 1) := dL_rings_9
theorem eL_rings_10 : decode mL_rings.2.1 10 = .ok (.iconst 2, 1) := dL_rings_10
theorem eL_rings_11 : decode mL_rings.2.1 11 = .ok (.iastore, 1) := dL_rings_11
theorem eL_rings_12 : decode mL_rings.2.1 12 = .ok (.dup, 1) := dL_rings_12
theorem eL_rings_13 : decode mL_rings.2.1 13 = .ok (.iconst 2, 1) := dL_rings_13
theorem eL_rings_14 : decode mL_rings.2.1 14 = .ok (.iconst 2, 1) := dL_rings_14
theorem eL_rings_15 : decode mL_rings.2.1 15 = .ok (.iastore, 1) := dL_rings_15
theorem eL_rings_16 : decode mL_rings.2.1 16 = .ok (.dup, 1) := dL_rings_16
theorem eL_rings_17 : decode mL_rings.2.1 17 = .ok (.iconst 3, 1) := dL_rings_17
theorem eL_rings_18 : decode mL_rings.2.1 18 = .ok (.iconst 2, 1) := dL_rings_18
theorem eL_rings_19 : decode mL_rings.2.1 19 = .ok (.iastore, 1) := dL_rings_19
theorem eL_rings_20 : decode mL_rings.2.1 20 = .ok (.dup, 1) := dL_rings_20
theorem eL_rings_21 : decode mL_rings.2.1 21 = .ok (.iconst 4, 1) := dL_rings_21
theorem eL_rings_22 : decode mL_rings.2.1 22 = .ok (.iconst 3, 1) := dL_rings_22
theorem eL_rings_23 : decode mL_rings.2.1 23 = .ok (.iastore, 1) := dL_rings_23
theorem eL_rings_24 : decode mL_rings.2.1 24 = .ok (.dup, 1) := dL_rings_24
theorem eL_rings_25 : decode mL_rings.2.1 25 = .ok (.iconst 5, 1) := dL_rings_25
theorem eL_rings_26 : decode mL_rings.2.1 26 = .ok (.iconst 2, 1) := dL_rings_26
theorem eL_rings_27 : decode mL_rings.2.1 27 = .ok (.iastore, 1) := dL_rings_27
theorem eL_rings_28 : decode mL_rings.2.1 28 = .ok (.dup, 1) := dL_rings_28
theorem eL_rings_29 : decode mL_rings.2.1 29 = .ok (.bipush 6, 2) := dL_rings_29
theorem eL_rings_31 : decode mL_rings.2.1 31 = .ok (.iconst 3, 1) := dL_rings_31
theorem eL_rings_32 : decode mL_rings.2.1 32 = .ok (.iastore, 1) := dL_rings_32
theorem eL_rings_33 : decode mL_rings.2.1 33 = .ok (.dup, 1) := dL_rings_33
theorem eL_rings_34 : decode mL_rings.2.1 34 = .ok (.bipush 7, 2) := dL_rings_34
theorem eL_rings_36 : decode mL_rings.2.1 36 = .ok (.iconst 2, 1) := dL_rings_36
theorem eL_rings_37 : decode mL_rings.2.1 37 = .ok (.iastore, 1) := dL_rings_37
theorem eL_rings_38 : decode mL_rings.2.1 38 = .ok (.dup, 1) := dL_rings_38
theorem eL_rings_39 : decode mL_rings.2.1 39 = .ok (.bipush 8, 2) := dL_rings_39
theorem eL_rings_41 : decode mL_rings.2.1 41 = .ok (.iconst 2, 1) := dL_rings_41
theorem eL_rings_42 : decode mL_rings.2.1 42 = .ok (.iastore, 1) := dL_rings_42
theorem eL_rings_43 : decode mL_rings.2.1 43 = .ok (.dup, 1) := dL_rings_43
theorem eL_rings_44 : decode mL_rings.2.1 44 = .ok (.bipush 9, 2) := dL_rings_44
theorem eL_rings_46 : decode mL_rings.2.1 46 = .ok (.iconst 2, 1) := dL_rings_46
theorem eL_rings_47 : decode mL_rings.2.1 47 = .ok (.iastore, 1) := dL_rings_47
theorem eL_rings_48 : decode mL_rings.2.1 48 = .ok (.dup, 1) := dL_rings_48
theorem eL_rings_49 : decode mL_rings.2.1 49 = .ok (.bipush 10, 2) := dL_rings_49
theorem eL_rings_51 : decode mL_rings.2.1 51 = .ok (.iconst 2, 1) := dL_rings_51
theorem eL_rings_52 : decode mL_rings.2.1 52 = .ok (.iastore, 1) := dL_rings_52
theorem eL_rings_53 : decode mL_rings.2.1 53 = .ok (.dup, 1) := dL_rings_53
theorem eL_rings_54 : decode mL_rings.2.1 54 = .ok (.bipush 11, 2) := dL_rings_54
theorem eL_rings_56 : decode mL_rings.2.1 56 = .ok (.iconst 3, 1) := dL_rings_56
theorem eL_rings_57 : decode mL_rings.2.1 57 = .ok (.iastore, 1) := dL_rings_57
theorem eL_rings_58 : decode mL_rings.2.1 58 = .ok (.dup, 1) := dL_rings_58
theorem eL_rings_59 : decode mL_rings.2.1 59 = .ok (.bipush 12, 2) := dL_rings_59
theorem eL_rings_61 : decode mL_rings.2.1 61 = .ok (.iconst 5, 1) := dL_rings_61
theorem eL_rings_62 : decode mL_rings.2.1 62 = .ok (.iastore, 1) := dL_rings_62
theorem eL_rings_63 : decode mL_rings.2.1 63 = .ok (.dup, 1) := dL_rings_63
theorem eL_rings_64 : decode mL_rings.2.1 64 = .ok (.bipush 13, 2) := dL_rings_64
theorem eL_rings_66 : decode mL_rings.2.1 66 = .ok (.iconst 2, 1) := dL_rings_66
theorem eL_rings_67 : decode mL_rings.2.1 67 = .ok (.iastore, 1) := dL_rings_67
theorem eL_rings_68 : decode mL_rings.2.1 68 = .ok (.dup, 1) := dL_rings_68
theorem eL_rings_69 : decode mL_rings.2.1 69 = .ok (.bipush 14, 2) := dL_rings_69
theorem eL_rings_71 : decode mL_rings.2.1 71 = .ok (.iconst 1, 1) := dL_rings_71
theorem eL_rings_72 : decode mL_rings.2.1 72 = .ok (.iastore, 1) := dL_rings_72
theorem eL_rings_73 : decode mL_rings.2.1 73 = .ok (.dup, 1) := dL_rings_73
theorem eL_rings_74 : decode mL_rings.2.1 74 = .ok (.bipush 15, 2) := dL_rings_74
theorem eL_rings_76 : decode mL_rings.2.1 76 = .ok (.bipush 7, 2) := dL_rings_76
theorem eL_rings_78 : decode mL_rings.2.1 78 = .ok (.iastore, 1) := dL_rings_78
theorem eL_rings_79 : decode mL_rings.2.1 79 = .ok (.dup, 1) := dL_rings_79
theorem eL_rings_80 : decode mL_rings.2.1 80 = .ok (.bipush 16, 2) := dL_rings_80
theorem eL_rings_82 : decode mL_rings.2.1 82 = .ok (.iconst 1, 1) := dL_rings_82
theorem eL_rings_83 : decode mL_rings.2.1 83 = .ok (.iastore, 1) := dL_rings_83
theorem eL_rings_84 : decode mL_rings.2.1 84 = .ok (.dup, 1) := dL_rings_84
theorem eL_rings_85 : decode mL_rings.2.1 85 = .ok (.bipush 17, 2) := dL_rings_85
theorem eL_rings_87 : decode mL_rings.2.1 87 = .ok (.iconst 2, 1) := dL_rings_87
theorem eL_rings_88 : decode mL_rings.2.1 88 = .ok (.iastore, 1) := dL_rings_88
theorem eL_rings_89 : decode mL_rings.2.1 89 = .ok (.dup, 1) := dL_rings_89
theorem eL_rings_90 : decode mL_rings.2.1 90 = .ok (.bipush 18, 2) := dL_rings_90
theorem eL_rings_92 : decode mL_rings.2.1 92 = .ok (.iconst 3, 1) := dL_rings_92
theorem eL_rings_93 : decode mL_rings.2.1 93 = .ok (.iastore, 1) := dL_rings_93
theorem eL_rings_94 : decode mL_rings.2.1 94 = .ok (.dup, 1) := dL_rings_94
theorem eL_rings_95 : decode mL_rings.2.1 95 = .ok (.bipush 19, 2) := dL_rings_95
theorem eL_rings_97 : decode mL_rings.2.1 97 = .ok (.iconst 3, 1) := dL_rings_97
theorem eL_rings_98 : decode mL_rings.2.1 98 = .ok (.iastore, 1) := dL_rings_98
theorem eL_rings_99 : decode mL_rings.2.1 99 = .ok (.dup, 1) := dL_rings_99
theorem eL_rings_100 : decode mL_rings.2.1 100 = .ok (.bipush 20, 2) := dL_rings_100
theorem eL_rings_102 : decode mL_rings.2.1 102 = .ok (.iconst 1, 1) := dL_rings_102
theorem eL_rings_103 : decode mL_rings.2.1 103 = .ok (.iastore, 1) := dL_rings_103
theorem eL_rings_104 : decode mL_rings.2.1 104 = .ok (.dup, 1) := dL_rings_104
theorem eL_rings_105 : decode mL_rings.2.1 105 = .ok (.bipush 21, 2) := dL_rings_105
theorem eL_rings_107 : decode mL_rings.2.1 107 = .ok (.iconst 2, 1) := dL_rings_107
theorem eL_rings_108 : decode mL_rings.2.1 108 = .ok (.iastore, 1) := dL_rings_108
theorem eL_rings_109 : decode mL_rings.2.1 109 = .ok (.dup, 1) := dL_rings_109
theorem eL_rings_110 : decode mL_rings.2.1 110 = .ok (.bipush 22, 2) := dL_rings_110
theorem eL_rings_112 : decode mL_rings.2.1 112 = .ok (.iconst 1, 1) := dL_rings_112
theorem eL_rings_113 : decode mL_rings.2.1 113 = .ok (.iastore, 1) := dL_rings_113
theorem eL_rings_114 : decode mL_rings.2.1 114 = .ok (.dup, 1) := dL_rings_114
theorem eL_rings_115 : decode mL_rings.2.1 115 = .ok (.bipush 23, 2) := dL_rings_115
theorem eL_rings_117 : decode mL_rings.2.1 117 = .ok (.iconst 4, 1) := dL_rings_117
theorem eL_rings_118 : decode mL_rings.2.1 118 = .ok (.iastore, 1) := dL_rings_118
theorem eL_rings_119 : decode mL_rings.2.1 119 = .ok (.dup, 1) := dL_rings_119
theorem eL_rings_120 : decode mL_rings.2.1 120 = .ok (.bipush 24, 2) := dL_rings_120
theorem eL_rings_122 : decode mL_rings.2.1 122 = .ok (.iconst 2, 1) := dL_rings_122
theorem eL_rings_123 : decode mL_rings.2.1 123 = .ok (.iastore, 1) := dL_rings_123
theorem eL_rings_124 : decode mL_rings.2.1 124 = .ok (.dup, 1) := dL_rings_124
theorem eL_rings_125 : decode mL_rings.2.1 125 = .ok (.bipush 25, 2) := dL_rings_125
theorem eL_rings_127 : decode mL_rings.2.1 127 = .ok (.iconst 4, 1) := dL_rings_127
theorem eL_rings_128 : decode mL_rings.2.1 128 = .ok (.iastore, 1) := dL_rings_128
theorem eL_rings_129 : decode mL_rings.2.1 129 = .ok (.dup, 1) := dL_rings_129
theorem eL_rings_130 : decode mL_rings.2.1 130 = .ok (.bipush 26, 2) := dL_rings_130
theorem eL_rings_132 : decode mL_rings.2.1 132 = .ok (.iconst 1, 1) := dL_rings_132
theorem eL_rings_133 : decode mL_rings.2.1 133 = .ok (.iastore, 1) := dL_rings_133
theorem eL_rings_134 : decode mL_rings.2.1 134 = .ok (.dup, 1) := dL_rings_134
theorem eL_rings_135 : decode mL_rings.2.1 135 = .ok (.bipush 27, 2) := dL_rings_135
theorem eL_rings_137 : decode mL_rings.2.1 137 = .ok (.iconst 3, 1) := dL_rings_137
theorem eL_rings_138 : decode mL_rings.2.1 138 = .ok (.iastore, 1) := dL_rings_138
theorem eL_rings_139 : decode mL_rings.2.1 139 = .ok (.dup, 1) := dL_rings_139
theorem eL_rings_140 : decode mL_rings.2.1 140 = .ok (.bipush 28, 2) := dL_rings_140
theorem eL_rings_142 : decode mL_rings.2.1 142 = .ok (.iconst 1, 1) := dL_rings_142
theorem eL_rings_143 : decode mL_rings.2.1 143 = .ok (.iastore, 1) := dL_rings_143
theorem eL_rings_144 : decode mL_rings.2.1 144 = .ok (.dup, 1) := dL_rings_144
theorem eL_rings_145 : decode mL_rings.2.1 145 = .ok (.bipush 29, 2) := dL_rings_145
theorem eL_rings_147 : decode mL_rings.2.1 147 = .ok (.iconst 3, 1) := dL_rings_147
theorem eL_rings_148 : decode mL_rings.2.1 148 = .ok (.iastore, 1) := dL_rings_148
theorem eL_rings_149 : decode mL_rings.2.1 149 = .ok (.dup, 1) := dL_rings_149
theorem eL_rings_150 : decode mL_rings.2.1 150 = .ok (.bipush 30, 2) := dL_rings_150
theorem eL_rings_152 : decode mL_rings.2.1 152 = .ok (.iconst 2, 1) := dL_rings_152
theorem eL_rings_153 : decode mL_rings.2.1 153 = .ok (.iastore, 1) := dL_rings_153
theorem eL_rings_154 : decode mL_rings.2.1 154 = .ok (.dup, 1) := dL_rings_154
theorem eL_rings_155 : decode mL_rings.2.1 155 = .ok (.bipush 31, 2) := dL_rings_155
theorem eL_rings_157 : decode mL_rings.2.1 157 = .ok (.iconst 1, 1) := dL_rings_157
theorem eL_rings_158 : decode mL_rings.2.1 158 = .ok (.iastore, 1) := dL_rings_158
theorem eL_rings_159 : decode mL_rings.2.1 159 = .ok (.dup, 1) := dL_rings_159
theorem eL_rings_160 : decode mL_rings.2.1 160 = .ok (.bipush 32, 2) := dL_rings_160
theorem eL_rings_162 : decode mL_rings.2.1 162 = .ok (.bipush 6, 2) := dL_rings_162
theorem eL_rings_164 : decode mL_rings.2.1 164 = .ok (.iastore, 1) := dL_rings_164
theorem eL_rings_165 : decode mL_rings.2.1 165 = .ok (.dup, 1) := dL_rings_165
theorem eL_rings_166 : decode mL_rings.2.1 166 = .ok (.bipush 33, 2) := dL_rings_166
theorem eL_rings_168 : decode mL_rings.2.1 168 = .ok (.iconst 5, 1) := dL_rings_168
theorem eL_rings_169 : decode mL_rings.2.1 169 = .ok (.iastore, 1) := dL_rings_169
theorem eL_rings_170 : decode mL_rings.2.1 170 = .ok (.dup, 1) := dL_rings_170
theorem eL_rings_171 : decode mL_rings.2.1 171 = .ok (.bipush 34, 2) := dL_rings_171
theorem eL_rings_173 : decode mL_rings.2.1 173 = .ok (.iconst 1, 1) := dL_rings_173
theorem eL_rings_174 : decode mL_rings.2.1 174 = .ok (.iastore, 1) := dL_rings_174
theorem eL_rings_175 : decode mL_rings.2.1 175 = .ok (.dup, 1) := dL_rings_175
theorem eL_rings_176 : decode mL_rings.2.1 176 = .ok (.bipush 35, 2) := dL_rings_176
theorem eL_rings_178 : decode mL_rings.2.1 178 = .ok (.iconst 2, 1) := dL_rings_178
theorem eL_rings_179 : decode mL_rings.2.1 179 = .ok (.iastore, 1) := dL_rings_179
theorem eL_rings_180 : decode mL_rings.2.1 180 = .ok (.astore_n 2, 1) := dL_rings_180
theorem eL_rings_181 : decode mL_rings.2.1 181 = .ok (.iload_n 1, 1) := dL_rings_181
theorem eL_rings_182 : decode mL_rings.2.1 182 = .ok (.bipush 12, 2) := dL_rings_182
theorem eL_rings_184 : decode mL_rings.2.1 184 = .ok (.irem, 1) := dL_rings_184
theorem eL_rings_185 : decode mL_rings.2.1 185 = .ok (.istore_n 3, 1) := dL_rings_185
theorem eL_rings_186 : decode mL_rings.2.1 186 = .ok (.aload_n 0, 1) := dL_rings_186
theorem eL_rings_187 : decode mL_rings.2.1 187 = .ok (.aload_n 2, 1) := dL_rings_187
theorem eL_rings_188 : decode mL_rings.2.1 188 = .ok (.iconst 3, 1) := dL_rings_188
theorem eL_rings_189 : decode mL_rings.2.1 189 = .ok (.iload_n 3, 1) := dL_rings_189
theorem eL_rings_190 : decode mL_rings.2.1 190 = .ok (.imul, 1) := dL_rings_190
theorem eL_rings_191 : decode mL_rings.2.1 191 = .ok (.iaload, 1) := dL_rings_191
theorem eL_rings_192 : decode mL_rings.2.1 192 = .ok (.aload_n 2, 1) := dL_rings_192
theorem eL_rings_193 : decode mL_rings.2.1 193 = .ok (.iconst 3, 1) := dL_rings_193
theorem eL_rings_194 : decode mL_rings.2.1 194 = .ok (.iload_n 3, 1) := dL_rings_194
theorem eL_rings_195 : decode mL_rings.2.1 195 = .ok (.imul, 1) := dL_rings_195
theorem eL_rings_196 : decode mL_rings.2.1 196 = .ok (.iconst 1, 1) := dL_rings_196
theorem eL_rings_197 : decode mL_rings.2.1 197 = .ok (.iadd, 1) := dL_rings_197
theorem eL_rings_198 : decode mL_rings.2.1 198 = .ok (.iaload, 1) := dL_rings_198
theorem eL_rings_199 : decode mL_rings.2.1 199 = .ok (.aload_n 2, 1) := dL_rings_199
theorem eL_rings_200 : decode mL_rings.2.1 200 = .ok (.iconst 3, 1) := dL_rings_200
theorem eL_rings_201 : decode mL_rings.2.1 201 = .ok (.iload_n 3, 1) := dL_rings_201
theorem eL_rings_202 : decode mL_rings.2.1 202 = .ok (.imul, 1) := dL_rings_202
theorem eL_rings_203 : decode mL_rings.2.1 203 = .ok (.iconst 2, 1) := dL_rings_203
theorem eL_rings_204 : decode mL_rings.2.1 204 = .ok (.iadd, 1) := dL_rings_204
theorem eL_rings_205 : decode mL_rings.2.1 205 = .ok (.iaload, 1) := dL_rings_205
theorem eL_rings_206 : decode mL_rings.2.1 206 = .ok (.invokevirtual 8, 3) := dL_rings_206
theorem eL_rings_209 : decode mL_rings.2.1 209 = .ok (.ireturn, 1) := dL_rings_209
theorem eL_length_0 : decode mL_length.2.1 0 = .ok (.aload_n 0, 1) := dL_length_0
theorem eL_length_1 : decode mL_length.2.1 1 = .ok (.iconst 4, 1) := dL_length_1
theorem eL_length_2 : decode mL_length.2.1 2 = .ok (.invokevirtual 14, 3) := dL_length_2
theorem eL_length_5 : decode mL_length.2.1 5 = .ok (.iconst 1, 1) := dL_length_5
theorem eL_length_6 : decode mL_length.2.1 6 = .ok (.isub, 1) := dL_length_6
theorem eL_length_7 : decode mL_length.2.1 7 = .ok (.istore_n 2, 1) := dL_length_7
theorem eL_length_8 : decode mL_length.2.1 8 = .ok (.iconst 1, 1) := dL_length_8
theorem eL_length_9 : decode mL_length.2.1 9 = .ok (.iload_n 1, 1) := dL_length_9
theorem eL_length_10 : decode mL_length.2.1 10 = .ok (.bipush 63, 2) := dL_length_10
theorem eL_length_12 : decode mL_length.2.1 12 = .ok (.iload_n 2, 1) := dL_length_12
theorem eL_length_13 : decode mL_length.2.1 13 = .ok (.invokestatic 18, 3) := dL_length_13
theorem eL_length_16 : decode mL_length.2.1 16 = .ok (.irem, 1) := dL_length_16
theorem eL_length_17 : decode mL_length.2.1 17 = .ok (.iadd, 1) := dL_length_17
theorem eL_length_18 : decode mL_length.2.1 18 = .ok (.istore_n 3, 1) := dL_length_18
theorem eL_length_19 : decode mL_length.2.1 19 = .ok (.iload_n 2, 1) := dL_length_19
theorem eL_length_20 : decode mL_length.2.1 20 = .ok (.iload_n 3, 1) := dL_length_20
theorem eL_length_21 : decode mL_length.2.1 21 = .ok (.irem, 1) := dL_length_21
theorem eL_length_22 : decode mL_length.2.1 22 = .ok (.ifCond .eq 9, 3) := dL_length_22
theorem eL_length_25 : decode mL_length.2.1 25 = .ok (.iinc 3 (-1), 3) := dL_length_25
theorem eL_length_28 : decode mL_length.2.1 28 = .ok (.goto (-9), 3) := dL_length_28
theorem eL_length_31 : decode mL_length.2.1 31 = .ok (.iload_n 3, 1) := dL_length_31
theorem eL_length_32 : decode mL_length.2.1 32 = .ok (.ireturn, 1) := dL_length_32
def PL1 : PO := fun o _ _ _ => o = .inl (some 1)
theorem i_andL {a : Int} {k : Nat} (hk : k ≤ 31) : Int32.ofInt a &&& Int32.ofInt (2 ^ k - 1) = Int32.ofInt (a % 2 ^ k) := by
  apply Int32.toBitVec.inj
  have hp : (2:Int) ^ k = ((2 ^ k : Nat) : Int) := by simp
  have h1 : 2 ^ k ≤ 2 ^ 31 := Nat.pow_le_pow_right (by decide) hk
  have h0 : 0 < 2 ^ k := Nat.pow_pos (by decide)
  show BitVec.ofInt 32 a &&& BitVec.ofInt 32 (2 ^ k - 1) = BitVec.ofInt 32 (a % 2 ^ k)
  apply BitVec.eq_of_toNat_eq
  rw [BitVec.toNat_and, BitVec.toNat_ofInt, BitVec.toNat_ofInt, BitVec.toNat_ofInt]
  have e1 : ((2:Int) ^ k - 1) % ((2 ^ 32 : Nat) : Int) = ((2 ^ k - 1 : Nat) : Int) := by
    rw [Int.emod_eq_of_lt (by rw [hp]; omega) (by rw [hp]; omega), hp]
    omega
  rw [e1, Int.toNat_natCast, Nat.and_two_pow_sub_one_eq_mod]
  have e2 : a % 2 ^ k % ((2 ^ 32 : Nat) : Int) = a % 2 ^ k := Int.emod_eq_of_lt (Int.emod_nonneg _ (by rw [hp]; omega)) (Int.lt_trans (Int.emod_lt_of_pos _ (by rw [hp]; omega)) (by rw [hp]; omega))
  rw [e2]
  have e3 : (a % ((2 ^ 32 : Nat) : Int)) % (2 ^ k) = a % 2 ^ k := by
    apply Int.emod_emod_of_dvd
    rw [hp]
    exact Int.natCast_dvd_natCast.mpr (Nat.pow_dvd_pow 2 (by omega))
  rw [← e3]
  obtain ⟨b, hb⟩ : ∃ b : Nat, a % ((2 ^ 32 : Nat) : Int) = (b : Int) := ⟨(a % ((2 ^ 32 : Nat) : Int)).toNat, (Int.toNat_of_nonneg (Int.emod_nonneg _ (by decide))).symm⟩
  rw [hb, hp, ← Int.natCast_emod, Int.toNat_natCast, Int.toNat_natCast]
theorem i_andM (a : Int) : Int32.ofInt a &&& Int32.ofInt 2147483647 = Int32.ofInt (a % 2147483648) := i_andL (k := 31) (by decide)
theorem i_shl1 {k : Nat} (hk : k ≤ 20) : Int32.ofInt 1 <<< (Int32.ofInt k &&& 31) = Int32.ofInt (2 ^ k) := by
  have : ∀ j : Fin 21, Int32.ofInt 1 <<< (Int32.ofInt ((j.val : Nat) : Int) &&& 31) = Int32.ofInt (2 ^ j.val) := by decide +kernel
  exact this ⟨k, by omega⟩
section LRows
variable {M : MT} {d mc ms : Nat} {Post : PO} {nc ns pc : Nat} {L : List (Option LV)} {st : List LV} {F : HF} {A : HA} {al : AL}
theorem q_iandM {a : Int} (hd : decode M.2.1 pc = .ok (.iand, 1)) (k : QW M d mc ms Post nc ns (pc + 1) L (vI (a % 2147483648) :: st) F A al) : QW M d mc ms Post nc ns pc L (vI 2147483647 :: vI a :: st) F A al := by
  intro p l e R s m args below meth c G P ad0 N0 hc ad H locs ls hs hst
  refine lv_iand hc.1 hc.2.2.1 hd ?_
  rw [i_andM]
  exact k p l e R s m args below meth c G P ad0 N0 hc ad H locs ls hs ⟨trivial, hst.2.2⟩
theorem q_shl1 {n : Nat} (hn : n ≤ 20) (hd : decode M.2.1 pc = .ok (.ishl, 1)) (k : QW M d mc ms Post nc ns (pc + 1) L (vI (2 ^ n) :: st) F A al) : QW M d mc ms Post nc ns pc L (vI n :: vI 1 :: st) F A al := by
  intro p l e R s m args below meth c G P ad0 N0 hc ad H locs ls hs hst
  refine lv_ishl hc.1 hc.2.2.1 hd ?_
  rw [i_shl1 hn]
  exact k p l e R s m args below meth c G P ad0 N0 hc ad H locs ls hs ⟨trivial, hst.2.2⟩
/-- a call of the class that changes nothing and answers -/
theorem q_px {M1 : MT} {mc1 ms1 idx : Nat} {E : String} (as : List LV) {R : Option Int} {v : Int} (hd : decode M.2.1 pc = .ok (.invokevirtual idx, 3)) (hm : MF M1 as.length) (hw : CV M.1.cls idx M1 9) (hK : KX al)
    (ev : QE 7 mc1 ms1 M1 (vA 1 :: as) F A al (PXP E R F A al)) (hR : R = some v) (hd1 : 7 < d) (hm1 : nc + mc1 ≤ mc) (hm2 : ns + ms1 ≤ ms) (hr : catS st ≤ 8) {st0 : List LV} (hst0 : st0 = as.reverse ++ vA 1 :: st)
    (k : ∀ A' : HA, Off [13, 14, 15, 18] A A' → QW M d mc ms Post (nc + mc1) (ns + ms1) (pc + 3) L (vI v :: st) F A' al) : QW M d mc ms Post nc ns pc L st0 F A al := by
  subst hR
  refine q_callV as hd hm hw (hK 1 (by decide) (by decide)) ev (fun E' F' A' al' h => by cases h.1) hd1 hm1 hm2 hr hst0 (fun v' F' A' al' h => ?_)
  obtain ⟨h1, rfl, rfl, h4⟩ := h
  cases h1
  exact k A' h4
/-- one that changes its own state and answers -/
theorem q_pr {M1 : MT} {mc1 ms1 idx : Nat} {E : String} {Q : HF → HA → Prop} (as : List LV) {R : Option Int} {v : Int} (hd : decode M.2.1 pc = .ok (.invokevirtual idx, 3)) (hm : MF M1 as.length) (hw : CV M.1.cls idx M1 9) (hK : KX al)
    (ev : QE 7 mc1 ms1 M1 (vA 1 :: as) F A al (PXR E R F A al Q)) (hR : R = some v) (hd1 : 7 < d) (hm1 : nc + mc1 ≤ mc) (hm2 : ns + ms1 ≤ ms) (hr : catS st ≤ 8) {st0 : List LV} (hst0 : st0 = as.reverse ++ vA 1 :: st)
    (k : ∀ (F' : HF) (A' : HA), (∀ b, b = 0 ∨ 44 ≤ b → A' b = A b) → Q F' A' → QW M d mc ms Post (nc + mc1) (ns + ms1) (pc + 3) L (vI v :: st) F' A' al) : QW M d mc ms Post nc ns pc L st0 F A al := by
  subst hR
  refine q_callV as hd hm hw (hK 1 (by decide) (by decide)) ev (fun E' F' A' al' h => by cases h.1) hd1 hm1 hm2 hr hst0 (fun v' F' A' al' h => ?_)
  obtain ⟨h1, rfl, -, h4, h5⟩ := h
  cases h1
  exact k F' A' h4 h5
end LRows
theorem KX.kU {al : AL} (h : KX al) (hn : 44 ≤ al.2) (x : Nat × Nat) : KX (kU al x) := fun a h1 h2 => by
  show (if a = al.2 then x else al.1 a) = klf a
  rw [if_neg (by omega)]
  exact h a h1 h2
/-! a cell of the script -/
def ceE (S0 : Nat → Int) (n0 k : Nat) : Int := if k < n0 then S0 k % 2147483648 else 0
theorem ce_rg (S0 : Nat → Int) (n0 k : Nat) : 0 ≤ ceE S0 n0 k ∧ ceE S0 n0 k < 2147483648 := by
  unfold ceE
  split
  · exact ⟨Int.emod_nonneg _ (by decide), Int.emod_lt_of_pos _ (by decide)⟩
  · exact ⟨by decide, by decide⟩
set_option maxRecDepth 20000 in
theorem ev_cell {S0 : Nat → Int} {n0 k : Nat} {F : HF} {A : HA} {al : AL} (hs : al.1 0 = (4, n0)) (hn0 : n0 ≤ 260) (hA : A 0 = S0) (hk : k < 6) : QE 0 0 0 mL_cell [vA 0, vI k] F A al (PI (ceE S0 n0 k) F A al) := by
  refine QE.mk (by decide +kernel) (Nat.le_of_ble_eq_true rfl) ?_
  refine q_iload_n eL_cell_0 rfl ?_
  refine q_aload_n eL_cell_1 rfl ?_
  refine q_slen eL_cell_2 hs ?_
  refine q_icmp_ge (tgt := 15) eL_cell_3 (by decide) ⟨by omega, by omega⟩ ⟨by omega, by omega⟩ (fun c => ?_) (fun c => ?_)
  · refine q_iconst eL_cell_15 ?_
    refine q_retI eL_cell_16 rfl (by decide) (by decide) ?_
    refine PI_ok ?_
    unfold ceE
    rw [if_neg (by omega)]
  · refine q_aload_n eL_cell_6 rfl ?_
    refine q_iload_n eL_cell_7 rfl ?_
    refine q_sld eL_cell_8 hs (by omega) (by omega) ?_
    refine q_ldc eL_cell_9 kc_L_7 ?_
    refine q_iandM eL_cell_11 ?_
    refine q_goto (tgt := 16) eL_cell_12 (by decide) ?_
    refine q_retI eL_cell_16 rfl (by decide) (by decide) ?_
    refine PI_ok ?_
    unfold ceE
    rw [if_pos (by omega), hA]
    rfl
/-! the twelve rings -/
def ringT : List Int := [2, 2, 2, 2, 3, 2, 3, 2, 2, 2, 2, 3, 5, 2, 1, 7, 1, 2, 3, 3, 1, 2, 1, 4, 2, 4, 1, 3, 1, 3, 2, 1, 6, 5, 1, 2]
def ringL : List (Nat × Nat × Nat) := [(2, 2, 2), (2, 3, 2), (3, 2, 2), (2, 2, 3), (5, 2, 1), (7, 1, 2), (3, 3, 1), (2, 1, 4), (2, 4, 1), (3, 1, 3), (2, 1, 6), (5, 1, 2)]
theorem ring_at : ∀ k : Nat, k < 12 → ringL.getD k (2, 2, 2) ∈ ringL ∧ ringT.getD (3 * k) 0 = ((ringL.getD k (2, 2, 2)).1 : Nat) ∧ ringT.getD (3 * k + 1) 0 = ((ringL.getD k (2, 2, 2)).2.1 : Nat) ∧ ringT.getD (3 * k + 2) 0 = ((ringL.getD k (2, 2, 2)).2.2 : Nat) := by decide
theorem ring_cer {p e r : Nat} (h : (p, e, r) ∈ ringL) : RV p e r ∧ Cer p e r := by
  have h9 : (p, e, r) = (2, 2, 2) ∨ (p, e, r) = (2, 3, 2) ∨ (p, e, r) = (3, 2, 2) ∨ (p, e, r) = (2, 2, 3) ∨ (p, e, r) = (5, 2, 1) ∨ (p, e, r) = (7, 1, 2) ∨ (p, e, r) = (3, 3, 1) ∨ (p, e, r) = (2, 1, 4) ∨ (p, e, r) = (2, 4, 1) ∨ (p, e, r) = (3, 1, 3) ∨ (p, e, r) = (2, 1, 6) ∨ (p, e, r) = (5, 1, 2) := by
    simpa only [ringL, List.mem_cons, List.not_mem_nil, or_false] using h
  rcases h9 with h9 | h9 | h9 | h9 | h9 | h9 | h9 | h9 | h9 | h9 | h9 | h9 <;> cases h9
  · exact ⟨⟨by decide, by decide⟩, cer_2_2_2⟩
  · exact ⟨⟨by decide, by decide⟩, cer_2_3_2⟩
  · exact ⟨⟨by decide, by decide⟩, cer_3_2_2⟩
  · exact ⟨⟨by decide, by decide⟩, cer_2_2_3⟩
  · exact ⟨⟨by decide, by decide⟩, cer_5_2_1⟩
  · exact ⟨⟨by decide, by decide⟩, cer_7_1_2⟩
  · exact ⟨⟨by decide, by decide⟩, cer_3_3_1⟩
  · exact ⟨⟨by decide, by decide⟩, cer_2_1_4⟩
  · exact ⟨⟨by decide, by decide⟩, cer_2_4_1⟩
  · exact ⟨⟨by decide, by decide⟩, cer_3_1_3⟩
  · exact ⟨⟨by decide, by decide⟩, cer_2_1_6⟩
  · exact ⟨⟨by decide, by decide⟩, cer_5_1_2⟩
def upL (a : Nat) : Nat → List Int → HA → HA
  | _, [], A => A
  | j, v :: l, A => upL a (j + 1) l (up2 A a j v)
theorem upL_row {a b : Nat} (h : b ≠ a) : ∀ (l : List Int) (j : Nat) (A : HA), upL a j l A b = A b
  | [], _, _ => rfl
  | v :: l, j, A => (upL_row h l (j + 1) (up2 A a j v)).trans (up2_row h)
theorem upL_lo {a : Nat} : ∀ (l : List Int) (j : Nat) (A : HA) (k : Nat), k < j → upL a j l A a k = A a k
  | [], _, _, _, _ => rfl
  | v :: l, j, A, k, h => (upL_lo l (j + 1) (up2 A a j v) k (by omega)).trans (up2_ne (by omega))
theorem upL_at {a : Nat} : ∀ (l : List Int) (j : Nat) (A : HA) (k : Nat), k < l.length → upL a j l A a (j + k) = l.getD k 0
  | [], _, _, _, h => absurd h (Nat.not_lt_zero _)
  | v :: l, j, A, 0, _ => (upL_lo l (j + 1) (up2 A a j v) j (by omega)).trans (up2_eq _ _ _ _)
  | v :: l, j, A, k + 1, h => by
    have h1 := upL_at (a := a) l (j + 1) (up2 A a j v) k (by simpa using h)
    rw [show j + 1 + k = j + (k + 1) by omega] at h1
    exact h1
abbrev XG (p e r : Nat) (F : HF) (A : HA) : Prop := XI p e r (p ^ r) (p ^ (e * r)) ((p : Int) ^ e) (rF p e r) (rG p e r) (rL p e r) (fun _ => 0) 0 (fun _ => 0) (-1) 1 0 (cyE ((p : Int) ^ e) r (p ^ r) 1 (rF p e r) (rG p e r) (paE p 1 1).1 0 1).1 (cyE ((p : Int) ^ e) r (p ^ r) 1 (rF p e r) (rG p e r) (paE p 1 1).1 0 1).2.1 (cyE ((p : Int) ^ e) r (p ^ r) 1 (rF p e r) (rG p e r) (paE p 1 1).1 0 1).2.2 none [] F A
def PRg (F : HF) (A : HA) (K : Nat → Nat × Nat) : PO := fun o F' A' al' => ∃ p e r : Nat, RV p e r ∧ Cer p e r ∧ o = .inl (some ((p ^ (e * r) : Nat) : Int)) ∧ al' = kU (K, 44) (0, 36) ∧ A' 0 = A 0 ∧ XG p e r F' A'
set_option maxRecDepth 20000 in
theorem ev_rings {c : Int} {F : HF} {A : HA} {K : Nat → Nat × Nat} (hc0 : 0 ≤ c) (hc1 : c < 2147483648) (hK : KX (K, 44)) (h : XG 2 1 1 F A) : QE 8 1 36 mL_rings [vA 1, vI c] F A (K, 44) (PRg F A K) := by
  refine QE.mk (by decide +kernel) (Nat.le_of_ble_eq_true rfl) ?_
  refine q_bipush eL_rings_0 (by decide +kernel) ?_
  refine q_newa_I (N := 36) eL_rings_2 (by decide) (Nat.le_of_ble_eq_true rfl) (Nat.le_of_ble_eq_true rfl) ?_
  have hk44 : (kU (K, 44) (0, 36)).1 44 = (0, 36) := by
    show (if (44 : Nat) = 44 then ((0, 36) : Nat × Nat) else K 44) = (0, 36)
    exact if_pos rfl
  refine q_dup eL_rings_4 rfl ?_
  refine q_iconst eL_rings_5 ?_
  refine q_iconst eL_rings_6 ?_
  refine q_iast eL_rings_7 hk44 (by decide) (by decide) ?_
  refine q_dup eL_rings_8 rfl ?_
  refine q_iconst eL_rings_9 ?_
  refine q_iconst eL_rings_10 ?_
  refine q_iast eL_rings_11 hk44 (by decide) (by decide) ?_
  refine q_dup eL_rings_12 rfl ?_
  refine q_iconst eL_rings_13 ?_
  refine q_iconst eL_rings_14 ?_
  refine q_iast eL_rings_15 hk44 (by decide) (by decide) ?_
  refine q_dup eL_rings_16 rfl ?_
  refine q_iconst eL_rings_17 ?_
  refine q_iconst eL_rings_18 ?_
  refine q_iast eL_rings_19 hk44 (by decide) (by decide) ?_
  refine q_dup eL_rings_20 rfl ?_
  refine q_iconst eL_rings_21 ?_
  refine q_iconst eL_rings_22 ?_
  refine q_iast eL_rings_23 hk44 (by decide) (by decide) ?_
  refine q_dup eL_rings_24 rfl ?_
  refine q_iconst eL_rings_25 ?_
  refine q_iconst eL_rings_26 ?_
  refine q_iast eL_rings_27 hk44 (by decide) (by decide) ?_
  refine q_dup eL_rings_28 rfl ?_
  refine q_bipush eL_rings_29 (by decide +kernel) ?_
  refine q_iconst eL_rings_31 ?_
  refine q_iast eL_rings_32 hk44 (by decide) (by decide) ?_
  refine q_dup eL_rings_33 rfl ?_
  refine q_bipush eL_rings_34 (by decide +kernel) ?_
  refine q_iconst eL_rings_36 ?_
  refine q_iast eL_rings_37 hk44 (by decide) (by decide) ?_
  refine q_dup eL_rings_38 rfl ?_
  refine q_bipush eL_rings_39 (by decide +kernel) ?_
  refine q_iconst eL_rings_41 ?_
  refine q_iast eL_rings_42 hk44 (by decide) (by decide) ?_
  refine q_dup eL_rings_43 rfl ?_
  refine q_bipush eL_rings_44 (by decide +kernel) ?_
  refine q_iconst eL_rings_46 ?_
  refine q_iast eL_rings_47 hk44 (by decide) (by decide) ?_
  refine q_dup eL_rings_48 rfl ?_
  refine q_bipush eL_rings_49 (by decide +kernel) ?_
  refine q_iconst eL_rings_51 ?_
  refine q_iast eL_rings_52 hk44 (by decide) (by decide) ?_
  refine q_dup eL_rings_53 rfl ?_
  refine q_bipush eL_rings_54 (by decide +kernel) ?_
  refine q_iconst eL_rings_56 ?_
  refine q_iast eL_rings_57 hk44 (by decide) (by decide) ?_
  refine q_dup eL_rings_58 rfl ?_
  refine q_bipush eL_rings_59 (by decide +kernel) ?_
  refine q_iconst eL_rings_61 ?_
  refine q_iast eL_rings_62 hk44 (by decide) (by decide) ?_
  refine q_dup eL_rings_63 rfl ?_
  refine q_bipush eL_rings_64 (by decide +kernel) ?_
  refine q_iconst eL_rings_66 ?_
  refine q_iast eL_rings_67 hk44 (by decide) (by decide) ?_
  refine q_dup eL_rings_68 rfl ?_
  refine q_bipush eL_rings_69 (by decide +kernel) ?_
  refine q_iconst eL_rings_71 ?_
  refine q_iast eL_rings_72 hk44 (by decide) (by decide) ?_
  refine q_dup eL_rings_73 rfl ?_
  refine q_bipush eL_rings_74 (by decide +kernel) ?_
  refine q_bipush eL_rings_76 (by decide +kernel) ?_
  refine q_iast eL_rings_78 hk44 (by decide) (by decide) ?_
  refine q_dup eL_rings_79 rfl ?_
  refine q_bipush eL_rings_80 (by decide +kernel) ?_
  refine q_iconst eL_rings_82 ?_
  refine q_iast eL_rings_83 hk44 (by decide) (by decide) ?_
  refine q_dup eL_rings_84 rfl ?_
  refine q_bipush eL_rings_85 (by decide +kernel) ?_
  refine q_iconst eL_rings_87 ?_
  refine q_iast eL_rings_88 hk44 (by decide) (by decide) ?_
  refine q_dup eL_rings_89 rfl ?_
  refine q_bipush eL_rings_90 (by decide +kernel) ?_
  refine q_iconst eL_rings_92 ?_
  refine q_iast eL_rings_93 hk44 (by decide) (by decide) ?_
  refine q_dup eL_rings_94 rfl ?_
  refine q_bipush eL_rings_95 (by decide +kernel) ?_
  refine q_iconst eL_rings_97 ?_
  refine q_iast eL_rings_98 hk44 (by decide) (by decide) ?_
  refine q_dup eL_rings_99 rfl ?_
  refine q_bipush eL_rings_100 (by decide +kernel) ?_
  refine q_iconst eL_rings_102 ?_
  refine q_iast eL_rings_103 hk44 (by decide) (by decide) ?_
  refine q_dup eL_rings_104 rfl ?_
  refine q_bipush eL_rings_105 (by decide +kernel) ?_
  refine q_iconst eL_rings_107 ?_
  refine q_iast eL_rings_108 hk44 (by decide) (by decide) ?_
  refine q_dup eL_rings_109 rfl ?_
  refine q_bipush eL_rings_110 (by decide +kernel) ?_
  refine q_iconst eL_rings_112 ?_
  refine q_iast eL_rings_113 hk44 (by decide) (by decide) ?_
  refine q_dup eL_rings_114 rfl ?_
  refine q_bipush eL_rings_115 (by decide +kernel) ?_
  refine q_iconst eL_rings_117 ?_
  refine q_iast eL_rings_118 hk44 (by decide) (by decide) ?_
  refine q_dup eL_rings_119 rfl ?_
  refine q_bipush eL_rings_120 (by decide +kernel) ?_
  refine q_iconst eL_rings_122 ?_
  refine q_iast eL_rings_123 hk44 (by decide) (by decide) ?_
  refine q_dup eL_rings_124 rfl ?_
  refine q_bipush eL_rings_125 (by decide +kernel) ?_
  refine q_iconst eL_rings_127 ?_
  refine q_iast eL_rings_128 hk44 (by decide) (by decide) ?_
  refine q_dup eL_rings_129 rfl ?_
  refine q_bipush eL_rings_130 (by decide +kernel) ?_
  refine q_iconst eL_rings_132 ?_
  refine q_iast eL_rings_133 hk44 (by decide) (by decide) ?_
  refine q_dup eL_rings_134 rfl ?_
  refine q_bipush eL_rings_135 (by decide +kernel) ?_
  refine q_iconst eL_rings_137 ?_
  refine q_iast eL_rings_138 hk44 (by decide) (by decide) ?_
  refine q_dup eL_rings_139 rfl ?_
  refine q_bipush eL_rings_140 (by decide +kernel) ?_
  refine q_iconst eL_rings_142 ?_
  refine q_iast eL_rings_143 hk44 (by decide) (by decide) ?_
  refine q_dup eL_rings_144 rfl ?_
  refine q_bipush eL_rings_145 (by decide +kernel) ?_
  refine q_iconst eL_rings_147 ?_
  refine q_iast eL_rings_148 hk44 (by decide) (by decide) ?_
  refine q_dup eL_rings_149 rfl ?_
  refine q_bipush eL_rings_150 (by decide +kernel) ?_
  refine q_iconst eL_rings_152 ?_
  refine q_iast eL_rings_153 hk44 (by decide) (by decide) ?_
  refine q_dup eL_rings_154 rfl ?_
  refine q_bipush eL_rings_155 (by decide +kernel) ?_
  refine q_iconst eL_rings_157 ?_
  refine q_iast eL_rings_158 hk44 (by decide) (by decide) ?_
  refine q_dup eL_rings_159 rfl ?_
  refine q_bipush eL_rings_160 (by decide +kernel) ?_
  refine q_bipush eL_rings_162 (by decide +kernel) ?_
  refine q_iast eL_rings_164 hk44 (by decide) (by decide) ?_
  refine q_dup eL_rings_165 rfl ?_
  refine q_bipush eL_rings_166 (by decide +kernel) ?_
  refine q_iconst eL_rings_168 ?_
  refine q_iast eL_rings_169 hk44 (by decide) (by decide) ?_
  refine q_dup eL_rings_170 rfl ?_
  refine q_bipush eL_rings_171 (by decide +kernel) ?_
  refine q_iconst eL_rings_173 ?_
  refine q_iast eL_rings_174 hk44 (by decide) (by decide) ?_
  refine q_dup eL_rings_175 rfl ?_
  refine q_bipush eL_rings_176 (by decide +kernel) ?_
  refine q_iconst eL_rings_178 ?_
  refine q_iast eL_rings_179 hk44 (by decide) (by decide) ?_
  have hmain : ∀ A9 : HA, A9 = upL 44 0 ringT (nA A 44) → QW mL_rings 8 1 36 (PRg F A K) (0 + 1) (0 + 36) 180 [some (vA 1), some (vI c), none, none] [vA 44] F A9 (kU (K, 44) (0, 36)) := by
    intro A9 hA9
    have h9 : ∀ j : Nat, j < 36 → A9 44 j = ringT.getD j 0 := fun j hj => by
      rw [hA9]
      have := upL_at (a := 44) ringT 0 (nA A 44) j hj
      rw [Nat.zero_add] at this
      exact this
    have h8 : ∀ b, b ≠ 44 → A9 b = A b := fun b hb => by
      rw [hA9, upL_row hb]
      exact if_neg hb
    have hX9 : XG 2 1 1 F A9 := h.lo (fun _ _ _ => rfl) (fun b hb => h8 b (by omega))
    refine q_astore_n eL_rings_180 (by decide) rfl ?_
    refine q_iload_n eL_rings_181 rfl ?_
    refine q_bipush eL_rings_182 (by decide +kernel) ?_
    refine q_irem eL_rings_184 hc0 hc1 (by decide) (by decide) ?_
    have hk0 : 0 ≤ c % 12 := Int.emod_nonneg _ (by decide)
    have hk1 : c % 12 < 12 := Int.emod_lt_of_pos _ (by decide)
    obtain ⟨k, hk⟩ : ∃ k : Nat, c % 12 = k := ⟨(c % 12).toNat, (Int.toNat_of_nonneg hk0).symm⟩
    rw [hk] at hk0 hk1 ⊢
    obtain ⟨g1, g2, g3, g4⟩ := ring_at k (by omega)
    refine q_istore_n eL_rings_185 (by decide) rfl ?_
    refine q_aload_n eL_rings_186 rfl ?_
    refine q_aload_n eL_rings_187 rfl ?_
    refine q_iconst eL_rings_188 ?_
    refine q_iload_n eL_rings_189 rfl ?_
    refine q_imul eL_rings_190 ?_
    refine q_iald eL_rings_191 hk44 (by omega) (by omega) ?_
    refine q_aload_n eL_rings_192 rfl ?_
    refine q_iconst eL_rings_193 ?_
    refine q_iload_n eL_rings_194 rfl ?_
    refine q_imul eL_rings_195 ?_
    refine q_iconst eL_rings_196 ?_
    refine q_iadd eL_rings_197 ?_
    refine q_iald eL_rings_198 hk44 (by omega) (by omega) ?_
    refine q_aload_n eL_rings_199 rfl ?_
    refine q_iconst eL_rings_200 ?_
    refine q_iload_n eL_rings_201 rfl ?_
    refine q_imul eL_rings_202 ?_
    refine q_iconst eL_rings_203 ?_
    refine q_iadd eL_rings_204 ?_
    refine q_iald eL_rings_205 hk44 (by omega) (by omega) ?_
    rw [show (3 * (k : Int)).toNat = 3 * k by omega, show (3 * (k : Int) + 1).toNat = 3 * k + 1 by omega, show (3 * (k : Int) + 2).toNat = 3 * k + 2 by omega, h9 _ (by omega), h9 _ (by omega), h9 _ (by omega), g2, g3, g4]
    generalize ringL.getD k (2, 2, 2) = t at g1
    obtain ⟨p, e, r⟩ := t
    obtain ⟨hv, hc⟩ := ring_cer g1
    refine q_pr [vI p, vI e, vI r] (M1 := mX11_ring) eL_rings_206 mf_X11_ring lk_L_8 (hK.kU (Nat.le_refl _) _) (ev_ringYes (hK.kU (Nat.le_refl _) _) hX9 hv.1 hv.2 (rh_of hv hc)) rfl (Nat.le_of_ble_eq_true rfl) (Nat.le_of_ble_eq_true rfl) (Nat.le_of_ble_eq_true rfl) (Nat.le_of_ble_eq_true rfl) (st := []) rfl (fun F2 A2 h1 h2 => ?_)
    refine q_retI eL_rings_209 rfl (Nat.le_of_ble_eq_true rfl) (Nat.le_of_ble_eq_true rfl) ?_
    exact ⟨p, e, r, hv, hc, rfl, rfl, (h1 0 (Or.inl rfl)).trans (h8 0 (by decide)), h2⟩
  exact hmain _ rfl
/-! a divisor of what there is below less 1 -/
def PLn (q : Nat) (F : HF) (A : HA) (al : AL) : PO := fun o F' A' al' => ∃ n : Nat, o = .inl (some (n : Int)) ∧ F' = F ∧ al' = al ∧ 1 ≤ n ∧ n ≤ 63 ∧ (q - 1) % n = 0 ∧ Off [13, 14, 15, 18] A A'
set_option maxRecDepth 20000 in
theorem lp_length {q : Nat} {c : Int} {F : HF} {A A0 : HA} {al : AL} (hq2 : 2 ≤ q) (hq4 : q ≤ 4096) (ho : Off [13, 14, 15, 18] A0 A) : ∀ n : Nat, 1 ≤ n → n ≤ 63 →
    QW mL_length 8 1 6 (PLn q F A0 al) (0 + 1) (0 + 6) 19 [some (vA 1), some (vI c), some (vI ((q : Int) - 1)), some (vI n)] [] F A al
  | 0, h, _ => absurd h (by decide)
  | n + 1, _, hn => by
    have hm : ((q : Int) - 1) % ((n + 1 : Nat) : Int) = (((q - 1) % (n + 1) : Nat) : Int) := by
      rw [Int.natCast_emod]
      congr 1
      omega
    refine q_iload_n eL_length_19 rfl ?_
    refine q_iload_n eL_length_20 rfl ?_
    refine q_irem eL_length_21 (by omega) (by omega) (by omega) (by omega) ?_
    rw [hm]
    have hlt : (q - 1) % (n + 1) < n + 1 := Nat.mod_lt _ (by omega)
    refine q_if_eq (tgt := 31) eL_length_22 (by decide) ⟨by omega, by omega⟩ (fun c1 => ?_) (fun c1 => ?_)
    · refine q_iload_n eL_length_31 rfl ?_
      refine q_retI eL_length_32 rfl (by decide) (by decide) ?_
      exact ⟨n + 1, rfl, rfl, rfl, by omega, hn, by omega, ho⟩
    · have hn0 : 1 ≤ n := by
        rcases Nat.eq_zero_or_pos n with h0 | h0
        · subst h0
          exact absurd (show (((q - 1) % (0 + 1) : Nat) : Int) = 0 by rw [Nat.zero_add, Nat.mod_one]; rfl) c1
        · exact h0
      refine q_iinc eL_length_25 rfl (by decide) rfl ?_
      refine q_goto (tgt := 19) eL_length_28 (by decide) ?_
      have h := lp_length (c := c) (F := F) (al := al) hq2 hq4 ho n hn0 (by omega)
      rw [show ((n : Nat) : Int) = ((n + 1 : Nat) : Int) + (-1) by omega] at h
      exact h
set_option maxRecDepth 20000 in
theorem ev_length {c : Int} {p e r q N : Nat} {m : Int} {f : Nat → Int} {g : Int} {lg pl_ tp mk ck : Nat → Int} {len n dg : Nat} {fp set : Int} {w : Option (Nat → Int)} {S : List Int} {F : HF} {A : HA} {al : AL} (hK : KX al) (h : XI p e r q N m f g lg pl_ len tp fp n set dg mk ck w S F A) (hq2 : 2 ≤ q) (hq4 : q ≤ 4096) (hc0 : 0 ≤ c) (hc1 : c < 2147483648) : QE 8 1 6 mL_length [vA 1, vI c] F A al (PLn q F A al) := by
  refine QE.mk (by decide +kernel) (Nat.le_of_ble_eq_true rfl) ?_
  refine q_aload_n eL_length_0 rfl ?_
  refine q_iconst eL_length_1 ?_
  refine q_px [vI 4] (M1 := mX11_count) (v := q) eL_length_2 mf_X11_count lk_L_14 hK (ev_cnt hK h ⟨by decide, by decide⟩) rfl (Nat.le_of_ble_eq_true rfl) (Nat.le_of_ble_eq_true rfl) (Nat.le_of_ble_eq_true rfl) (Nat.le_of_ble_eq_true rfl) (st := []) rfl (fun A2 ho => ?_)
  refine q_iconst eL_length_5 ?_
  refine q_isub eL_length_6 ?_
  refine q_istore_n eL_length_7 (by decide) rfl ?_
  refine q_iconst eL_length_8 ?_
  refine q_iload_n eL_length_9 rfl ?_
  refine q_bipush eL_length_10 (by decide +kernel) ?_
  refine q_iload_n eL_length_12 rfl ?_
  refine q_callSP [vI 63, vI ((q : Int) - 1)] (M1 := mJ9_min_7cf53) eL_length_13 mf_J9_min_7cf53 lk_L_18 (ev_min ⟨by decide, by decide⟩ ⟨by omega, by omega⟩) (Nat.le_of_ble_eq_true rfl) (Nat.le_of_ble_eq_true rfl) (Nat.le_of_ble_eq_true rfl) (Nat.le_of_ble_eq_true rfl) rfl ?_
  have hmn : 1 ≤ min (63 : Int) ((q : Int) - 1) ∧ min (63 : Int) ((q : Int) - 1) ≤ 63 := by omega
  generalize min (63 : Int) ((q : Int) - 1) = v at hmn
  refine q_irem eL_length_16 hc0 hc1 (by omega) (by omega) ?_
  refine q_iadd eL_length_17 ?_
  refine q_istore_n eL_length_18 (by decide) rfl ?_
  have h0 : 0 ≤ c % v := Int.emod_nonneg _ (by omega)
  have h1 : c % v < v := Int.emod_lt_of_pos _ (by omega)
  obtain ⟨k, hk⟩ : ∃ k : Nat, 1 + c % v = k := ⟨(1 + c % v).toNat, by omega⟩
  have hl := lp_length (c := c) (F := F) (al := al) hq2 hq4 ho k (by omega) (by omega)
  rw [← hk] at hl
  exact hl

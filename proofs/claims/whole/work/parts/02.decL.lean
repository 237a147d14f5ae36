theorem d_L_append_0 : decode b_L_append 0 = .ok (.aload_n 1, 1) := by decide +kernel
theorem d_L_append_1 : decode b_L_append 1 = .ok (.iconst 0, 1) := by decide +kernel
theorem d_L_append_2 : decode b_L_append 2 = .ok (.aload_n 0, 1) := by decide +kernel
theorem d_L_append_3 : decode b_L_append 3 = .ok (.invokevirtual 7, 3) := by decide +kernel
theorem d_L_append_6 : decode b_L_append 6 = .ok (.i2l, 1) := by decide +kernel
theorem d_L_append_7 : decode b_L_append 7 = .ok (.lastore, 1) := by decide +kernel
theorem d_L_append_8 : decode b_L_append 8 = .ok (.goto 12, 3) := by decide +kernel
theorem d_L_append_11 : decode b_L_append 11 = .ok (.astore_n 2, 1) := by decide +kernel
theorem d_L_append_12 : decode b_L_append 12 = .ok (.iconst 1, 1) := by decide +kernel
theorem d_L_append_13 : decode b_L_append 13 = .ok (.ireturn, 1) := by decide +kernel
theorem d_L_append_14 : decode b_L_append 14 = .ok (.astore_n 2, 1) := by decide +kernel
theorem d_L_append_15 : decode b_L_append 15 = .ok (.iconst 2, 1) := by decide +kernel
theorem d_L_append_16 : decode b_L_append 16 = .ok (.ireturn, 1) := by decide +kernel
theorem d_L_append_17 : decode b_L_append 17 = .ok (.astore_n 2, 1) := by decide +kernel
theorem d_L_append_18 : decode b_L_append 18 = .ok (.iconst 3, 1) := by decide +kernel
theorem d_L_append_19 : decode b_L_append 19 = .ok (.ireturn, 1) := by decide +kernel
theorem d_L_append_20 : decode b_L_append 20 = .ok (.iconst 0, 1) := by decide +kernel
theorem d_L_append_21 : decode b_L_append 21 = .ok (.ireturn, 1) := by decide +kernel
theorem d_L_compact_0 : decode b_L_compact 0 = .ok (.aload_n 1, 1) := by decide +kernel
theorem d_L_compact_1 : decode b_L_compact 1 = .ok (.iconst 0, 1) := by decide +kernel
theorem d_L_compact_2 : decode b_L_compact 2 = .ok (.aload_n 0, 1) := by decide +kernel
theorem d_L_compact_3 : decode b_L_compact 3 = .ok (.invokevirtual 19, 3) := by decide +kernel
theorem d_L_compact_6 : decode b_L_compact 6 = .ok (.i2l, 1) := by decide +kernel
theorem d_L_compact_7 : decode b_L_compact 7 = .ok (.lastore, 1) := by decide +kernel
theorem d_L_compact_8 : decode b_L_compact 8 = .ok (.goto 9, 3) := by decide +kernel
theorem d_L_compact_11 : decode b_L_compact 11 = .ok (.astore_n 2, 1) := by decide +kernel
theorem d_L_compact_12 : decode b_L_compact 12 = .ok (.iconst 1, 1) := by decide +kernel
theorem d_L_compact_13 : decode b_L_compact 13 = .ok (.ireturn, 1) := by decide +kernel
theorem d_L_compact_14 : decode b_L_compact 14 = .ok (.astore_n 2, 1) := by decide +kernel
theorem d_L_compact_15 : decode b_L_compact 15 = .ok (.iconst 2, 1) := by decide +kernel
theorem d_L_compact_16 : decode b_L_compact 16 = .ok (.ireturn, 1) := by decide +kernel
theorem d_L_compact_17 : decode b_L_compact 17 = .ok (.iconst 0, 1) := by decide +kernel
theorem d_L_compact_18 : decode b_L_compact 18 = .ok (.ireturn, 1) := by decide +kernel
theorem d_L_law_0 : decode b_L_law 0 = .ok (.new 8, 3) := by decide +kernel
theorem d_L_law_3 : decode b_L_law 3 = .ok (.dup, 1) := by decide +kernel
theorem d_L_law_4 : decode b_L_law 4 = .ok (.invokespecial 22, 3) := by decide +kernel
theorem d_L_law_7 : decode b_L_law 7 = .ok (.astore_n 1, 1) := by decide +kernel
theorem d_L_law_8 : decode b_L_law 8 = .ok (.new 23, 3) := by decide +kernel
theorem d_L_law_11 : decode b_L_law 11 = .ok (.dup, 1) := by decide +kernel
theorem d_L_law_12 : decode b_L_law 12 = .ok (.invokespecial 25, 3) := by decide +kernel
theorem d_L_law_15 : decode b_L_law 15 = .ok (.astore_n 2, 1) := by decide +kernel
theorem d_L_law_16 : decode b_L_law 16 = .ok (.iconst 1, 1) := by decide +kernel
theorem d_L_law_17 : decode b_L_law 17 = .ok (.newarray .long, 2) := by decide +kernel
theorem d_L_law_19 : decode b_L_law 19 = .ok (.astore_n 3, 1) := by decide +kernel
theorem d_L_law_20 : decode b_L_law 20 = .ok (.iconst 0, 1) := by decide +kernel
theorem d_L_law_21 : decode b_L_law 21 = .ok (.istore 4, 2) := by decide +kernel
theorem d_L_law_23 : decode b_L_law 23 = .ok (.iload 4, 2) := by decide +kernel
theorem d_L_law_25 : decode b_L_law 25 = .ok (.aload_n 0, 1) := by decide +kernel
theorem d_L_law_26 : decode b_L_law 26 = .ok (.arraylength, 1) := by decide +kernel
theorem d_L_law_27 : decode b_L_law 27 = .ok (.iconst 4, 1) := by decide +kernel
theorem d_L_law_28 : decode b_L_law 28 = .ok (.isub, 1) := by decide +kernel
theorem d_L_law_29 : decode b_L_law 29 = .ok (.if_icmp .gt 541, 3) := by decide +kernel
theorem d_L_law_32 : decode b_L_law 32 = .ok (.aload_n 0, 1) := by decide +kernel
theorem d_L_law_33 : decode b_L_law 33 = .ok (.iload 4, 2) := by decide +kernel
theorem d_L_law_35 : decode b_L_law 35 = .ok (.iaload, 1) := by decide +kernel
theorem d_L_law_36 : decode b_L_law 36 = .ok (.bipush 15, 2) := by decide +kernel
theorem d_L_law_38 : decode b_L_law 38 = .ok (.iand, 1) := by decide +kernel
theorem d_L_law_39 : decode b_L_law 39 = .ok (.tableswitch 525 0 13 #[69, 80, 149, 160, 204, 257, 301, 326, 337, 350, 399, 424, 462, 500], 69) := by decide +kernel
theorem d_L_law_108 : decode b_L_law 108 = .ok (.aload_n 1, 1) := by decide +kernel
theorem d_L_law_109 : decode b_L_law 109 = .ok (.invokevirtual 26, 3) := by decide +kernel
theorem d_L_law_112 : decode b_L_law 112 = .ok (.aload_n 2, 1) := by decide +kernel
theorem d_L_law_113 : decode b_L_law 113 = .ok (.invokevirtual 29, 3) := by decide +kernel
theorem d_L_law_116 : decode b_L_law 116 = .ok (.goto 448, 3) := by decide +kernel
theorem d_L_law_119 : decode b_L_law 119 = .ok (.aload_n 1, 1) := by decide +kernel
theorem d_L_law_120 : decode b_L_law 120 = .ok (.aload_n 0, 1) := by decide +kernel
theorem d_L_law_121 : decode b_L_law 121 = .ok (.iload 4, 2) := by decide +kernel
theorem d_L_law_123 : decode b_L_law 123 = .ok (.iconst 1, 1) := by decide +kernel
theorem d_L_law_124 : decode b_L_law 124 = .ok (.iadd, 1) := by decide +kernel
theorem d_L_law_125 : decode b_L_law 125 = .ok (.iaload, 1) := by decide +kernel
theorem d_L_law_126 : decode b_L_law 126 = .ok (.i2l, 1) := by decide +kernel
theorem d_L_law_127 : decode b_L_law 127 = .ok (.bipush 32, 2) := by decide +kernel
theorem d_L_law_129 : decode b_L_law 129 = .ok (.lshl, 1) := by decide +kernel
theorem d_L_law_130 : decode b_L_law 130 = .ok (.aload_n 0, 1) := by decide +kernel
theorem d_L_law_131 : decode b_L_law 131 = .ok (.iload 4, 2) := by decide +kernel
theorem d_L_law_133 : decode b_L_law 133 = .ok (.iconst 2, 1) := by decide +kernel
theorem d_L_law_134 : decode b_L_law 134 = .ok (.iadd, 1) := by decide +kernel
theorem d_L_law_135 : decode b_L_law 135 = .ok (.iaload, 1) := by decide +kernel
theorem d_L_law_136 : decode b_L_law 136 = .ok (.i2l, 1) := by decide +kernel
theorem d_L_law_137 : decode b_L_law 137 = .ok (.ldc2_w 30, 3) := by decide +kernel
theorem d_L_law_140 : decode b_L_law 140 = .ok (.land, 1) := by decide +kernel
theorem d_L_law_141 : decode b_L_law 141 = .ok (.lor, 1) := by decide +kernel
theorem d_L_law_142 : decode b_L_law 142 = .ok (.aload_n 0, 1) := by decide +kernel
theorem d_L_law_143 : decode b_L_law 143 = .ok (.iload 4, 2) := by decide +kernel
theorem d_L_law_145 : decode b_L_law 145 = .ok (.iconst 3, 1) := by decide +kernel
theorem d_L_law_146 : decode b_L_law 146 = .ok (.iadd, 1) := by decide +kernel
theorem d_L_law_147 : decode b_L_law 147 = .ok (.iaload, 1) := by decide +kernel
theorem d_L_law_148 : decode b_L_law 148 = .ok (.invokevirtual 32, 3) := by decide +kernel
theorem d_L_law_151 : decode b_L_law 151 = .ok (.aload_n 2, 1) := by decide +kernel
theorem d_L_law_152 : decode b_L_law 152 = .ok (.aload_n 0, 1) := by decide +kernel
theorem d_L_law_153 : decode b_L_law 153 = .ok (.iload 4, 2) := by decide +kernel
theorem d_L_law_155 : decode b_L_law 155 = .ok (.iconst 1, 1) := by decide +kernel
theorem d_L_law_156 : decode b_L_law 156 = .ok (.iadd, 1) := by decide +kernel
theorem d_L_law_157 : decode b_L_law 157 = .ok (.iaload, 1) := by decide +kernel
theorem d_L_law_158 : decode b_L_law 158 = .ok (.i2l, 1) := by decide +kernel
theorem d_L_law_159 : decode b_L_law 159 = .ok (.bipush 32, 2) := by decide +kernel
theorem d_L_law_161 : decode b_L_law 161 = .ok (.lshl, 1) := by decide +kernel
theorem d_L_law_162 : decode b_L_law 162 = .ok (.aload_n 0, 1) := by decide +kernel
theorem d_L_law_163 : decode b_L_law 163 = .ok (.iload 4, 2) := by decide +kernel
theorem d_L_law_165 : decode b_L_law 165 = .ok (.iconst 2, 1) := by decide +kernel
theorem d_L_law_166 : decode b_L_law 166 = .ok (.iadd, 1) := by decide +kernel
theorem d_L_law_167 : decode b_L_law 167 = .ok (.iaload, 1) := by decide +kernel
theorem d_L_law_168 : decode b_L_law 168 = .ok (.i2l, 1) := by decide +kernel
theorem d_L_law_169 : decode b_L_law 169 = .ok (.ldc2_w 30, 3) := by decide +kernel
theorem d_L_law_172 : decode b_L_law 172 = .ok (.land, 1) := by decide +kernel
theorem d_L_law_173 : decode b_L_law 173 = .ok (.lor, 1) := by decide +kernel
theorem d_L_law_174 : decode b_L_law 174 = .ok (.aload_n 0, 1) := by decide +kernel
theorem d_L_law_175 : decode b_L_law 175 = .ok (.iload 4, 2) := by decide +kernel
theorem d_L_law_177 : decode b_L_law 177 = .ok (.iconst 3, 1) := by decide +kernel
theorem d_L_law_178 : decode b_L_law 178 = .ok (.iadd, 1) := by decide +kernel
theorem d_L_law_179 : decode b_L_law 179 = .ok (.iaload, 1) := by decide +kernel
theorem d_L_law_180 : decode b_L_law 180 = .ok (.invokevirtual 36, 3) := by decide +kernel
theorem d_L_law_183 : decode b_L_law 183 = .ok (.if_icmp .eq 381, 3) := by decide +kernel
theorem d_L_law_186 : decode b_L_law 186 = .ok (.iconst 0, 1) := by decide +kernel
theorem d_L_law_187 : decode b_L_law 187 = .ok (.ireturn, 1) := by decide +kernel
theorem d_L_law_188 : decode b_L_law 188 = .ok (.aload_n 1, 1) := by decide +kernel
theorem d_L_law_189 : decode b_L_law 189 = .ok (.invokevirtual 37, 3) := by decide +kernel
theorem d_L_law_192 : decode b_L_law 192 = .ok (.aload_n 2, 1) := by decide +kernel
theorem d_L_law_193 : decode b_L_law 193 = .ok (.invokevirtual 40, 3) := by decide +kernel
theorem d_L_law_196 : decode b_L_law 196 = .ok (.goto 368, 3) := by decide +kernel
theorem d_L_law_199 : decode b_L_law 199 = .ok (.aload_n 1, 1) := by decide +kernel
theorem d_L_law_200 : decode b_L_law 200 = .ok (.aload_n 3, 1) := by decide +kernel
theorem d_L_law_201 : decode b_L_law 201 = .ok (.invokestatic 41, 3) := by decide +kernel
theorem d_L_law_204 : decode b_L_law 204 = .ok (.istore 5, 2) := by decide +kernel
theorem d_L_law_206 : decode b_L_law 206 = .ok (.aload_n 2, 1) := by decide +kernel
theorem d_L_law_207 : decode b_L_law 207 = .ok (.invokevirtual 46, 3) := by decide +kernel
theorem d_L_law_210 : decode b_L_law 210 = .ok (.istore 6, 2) := by decide +kernel
theorem d_L_law_212 : decode b_L_law 212 = .ok (.aload_n 2, 1) := by decide +kernel
theorem d_L_law_213 : decode b_L_law 213 = .ok (.invokevirtual 47, 3) := by decide +kernel
theorem d_L_law_216 : decode b_L_law 216 = .ok (.iload 5, 2) := by decide +kernel
theorem d_L_law_218 : decode b_L_law 218 = .ok (.if_icmp .eq 5, 3) := by decide +kernel
theorem d_L_law_221 : decode b_L_law 221 = .ok (.iconst 0, 1) := by decide +kernel
theorem d_L_law_222 : decode b_L_law 222 = .ok (.ireturn, 1) := by decide +kernel
theorem d_L_law_223 : decode b_L_law 223 = .ok (.iload 5, 2) := by decide +kernel
theorem d_L_law_225 : decode b_L_law 225 = .ok (.ifCond .ne 15, 3) := by decide +kernel
theorem d_L_law_228 : decode b_L_law 228 = .ok (.aload_n 3, 1) := by decide +kernel
theorem d_L_law_229 : decode b_L_law 229 = .ok (.iconst 0, 1) := by decide +kernel
theorem d_L_law_230 : decode b_L_law 230 = .ok (.laload, 1) := by decide +kernel
theorem d_L_law_231 : decode b_L_law 231 = .ok (.iload 6, 2) := by decide +kernel
theorem d_L_law_233 : decode b_L_law 233 = .ok (.i2l, 1) := by decide +kernel
theorem d_L_law_234 : decode b_L_law 234 = .ok (.lcmp, 1) := by decide +kernel
theorem d_L_law_235 : decode b_L_law 235 = .ok (.ifCond .eq 5, 3) := by decide +kernel
theorem d_L_law_238 : decode b_L_law 238 = .ok (.iconst 0, 1) := by decide +kernel
theorem d_L_law_239 : decode b_L_law 239 = .ok (.ireturn, 1) := by decide +kernel
theorem d_L_law_240 : decode b_L_law 240 = .ok (.goto 324, 3) := by decide +kernel
theorem d_L_law_243 : decode b_L_law 243 = .ok (.aload_n 1, 1) := by decide +kernel
theorem d_L_law_244 : decode b_L_law 244 = .ok (.aload_n 0, 1) := by decide +kernel
theorem d_L_law_245 : decode b_L_law 245 = .ok (.iload 4, 2) := by decide +kernel
theorem d_L_law_247 : decode b_L_law 247 = .ok (.iconst 1, 1) := by decide +kernel
theorem d_L_law_248 : decode b_L_law 248 = .ok (.iadd, 1) := by decide +kernel
theorem d_L_law_249 : decode b_L_law 249 = .ok (.iaload, 1) := by decide +kernel
theorem d_L_law_250 : decode b_L_law 250 = .ok (.aload_n 0, 1) := by decide +kernel
theorem d_L_law_251 : decode b_L_law 251 = .ok (.iload 4, 2) := by decide +kernel
theorem d_L_law_253 : decode b_L_law 253 = .ok (.iconst 2, 1) := by decide +kernel
theorem d_L_law_254 : decode b_L_law 254 = .ok (.iadd, 1) := by decide +kernel
theorem d_L_law_255 : decode b_L_law 255 = .ok (.iaload, 1) := by decide +kernel
theorem d_L_law_256 : decode b_L_law 256 = .ok (.ifCond .eq 7, 3) := by decide +kernel
theorem d_L_law_259 : decode b_L_law 259 = .ok (.iconst 1, 1) := by decide +kernel
theorem d_L_law_260 : decode b_L_law 260 = .ok (.goto 4, 3) := by decide +kernel
theorem d_L_law_263 : decode b_L_law 263 = .ok (.iconst 0, 1) := by decide +kernel
theorem d_L_law_264 : decode b_L_law 264 = .ok (.invokevirtual 50, 3) := by decide +kernel
theorem d_L_law_267 : decode b_L_law 267 = .ok (.aload_n 2, 1) := by decide +kernel
theorem d_L_law_268 : decode b_L_law 268 = .ok (.aload_n 0, 1) := by decide +kernel
theorem d_L_law_269 : decode b_L_law 269 = .ok (.iload 4, 2) := by decide +kernel
theorem d_L_law_271 : decode b_L_law 271 = .ok (.iconst 1, 1) := by decide +kernel
theorem d_L_law_272 : decode b_L_law 272 = .ok (.iadd, 1) := by decide +kernel
theorem d_L_law_273 : decode b_L_law 273 = .ok (.iaload, 1) := by decide +kernel
theorem d_L_law_274 : decode b_L_law 274 = .ok (.aload_n 0, 1) := by decide +kernel
theorem d_L_law_275 : decode b_L_law 275 = .ok (.iload 4, 2) := by decide +kernel
theorem d_L_law_277 : decode b_L_law 277 = .ok (.iconst 2, 1) := by decide +kernel
theorem d_L_law_278 : decode b_L_law 278 = .ok (.iadd, 1) := by decide +kernel
theorem d_L_law_279 : decode b_L_law 279 = .ok (.iaload, 1) := by decide +kernel
theorem d_L_law_280 : decode b_L_law 280 = .ok (.ifCond .eq 7, 3) := by decide +kernel
theorem d_L_law_283 : decode b_L_law 283 = .ok (.iconst 1, 1) := by decide +kernel
theorem d_L_law_284 : decode b_L_law 284 = .ok (.goto 4, 3) := by decide +kernel
theorem d_L_law_287 : decode b_L_law 287 = .ok (.iconst 0, 1) := by decide +kernel
theorem d_L_law_288 : decode b_L_law 288 = .ok (.invokevirtual 54, 3) := by decide +kernel
theorem d_L_law_291 : decode b_L_law 291 = .ok (.if_icmp .eq 273, 3) := by decide +kernel
theorem d_L_law_294 : decode b_L_law 294 = .ok (.iconst 0, 1) := by decide +kernel
theorem d_L_law_295 : decode b_L_law 295 = .ok (.ireturn, 1) := by decide +kernel
theorem d_L_law_296 : decode b_L_law 296 = .ok (.aload_n 1, 1) := by decide +kernel
theorem d_L_law_297 : decode b_L_law 297 = .ok (.aload_n 3, 1) := by decide +kernel
theorem d_L_law_298 : decode b_L_law 298 = .ok (.invokestatic 55, 3) := by decide +kernel
theorem d_L_law_301 : decode b_L_law 301 = .ok (.istore 5, 2) := by decide +kernel
theorem d_L_law_303 : decode b_L_law 303 = .ok (.aload_n 2, 1) := by decide +kernel
theorem d_L_law_304 : decode b_L_law 304 = .ok (.invokevirtual 57, 3) := by decide +kernel
theorem d_L_law_307 : decode b_L_law 307 = .ok (.istore 6, 2) := by decide +kernel
theorem d_L_law_309 : decode b_L_law 309 = .ok (.aload_n 2, 1) := by decide +kernel
theorem d_L_law_310 : decode b_L_law 310 = .ok (.invokevirtual 47, 3) := by decide +kernel
theorem d_L_law_313 : decode b_L_law 313 = .ok (.iload 5, 2) := by decide +kernel
theorem d_L_law_315 : decode b_L_law 315 = .ok (.if_icmp .eq 5, 3) := by decide +kernel
theorem d_L_law_318 : decode b_L_law 318 = .ok (.iconst 0, 1) := by decide +kernel
theorem d_L_law_319 : decode b_L_law 319 = .ok (.ireturn, 1) := by decide +kernel
theorem d_L_law_320 : decode b_L_law 320 = .ok (.iload 5, 2) := by decide +kernel
theorem d_L_law_322 : decode b_L_law 322 = .ok (.ifCond .ne 15, 3) := by decide +kernel
theorem d_L_law_325 : decode b_L_law 325 = .ok (.aload_n 3, 1) := by decide +kernel
theorem d_L_law_326 : decode b_L_law 326 = .ok (.iconst 0, 1) := by decide +kernel
theorem d_L_law_327 : decode b_L_law 327 = .ok (.laload, 1) := by decide +kernel
theorem d_L_law_328 : decode b_L_law 328 = .ok (.iload 6, 2) := by decide +kernel
theorem d_L_law_330 : decode b_L_law 330 = .ok (.i2l, 1) := by decide +kernel
theorem d_L_law_331 : decode b_L_law 331 = .ok (.lcmp, 1) := by decide +kernel
theorem d_L_law_332 : decode b_L_law 332 = .ok (.ifCond .eq 5, 3) := by decide +kernel
theorem d_L_law_335 : decode b_L_law 335 = .ok (.iconst 0, 1) := by decide +kernel
theorem d_L_law_336 : decode b_L_law 336 = .ok (.ireturn, 1) := by decide +kernel
theorem d_L_law_337 : decode b_L_law 337 = .ok (.goto 227, 3) := by decide +kernel
theorem d_L_law_340 : decode b_L_law 340 = .ok (.aload_n 1, 1) := by decide +kernel
theorem d_L_law_341 : decode b_L_law 341 = .ok (.aload_n 0, 1) := by decide +kernel
theorem d_L_law_342 : decode b_L_law 342 = .ok (.iload 4, 2) := by decide +kernel
theorem d_L_law_344 : decode b_L_law 344 = .ok (.iconst 1, 1) := by decide +kernel
theorem d_L_law_345 : decode b_L_law 345 = .ok (.iadd, 1) := by decide +kernel
theorem d_L_law_346 : decode b_L_law 346 = .ok (.iaload, 1) := by decide +kernel
theorem d_L_law_347 : decode b_L_law 347 = .ok (.invokevirtual 58, 3) := by decide +kernel
theorem d_L_law_350 : decode b_L_law 350 = .ok (.aload_n 2, 1) := by decide +kernel
theorem d_L_law_351 : decode b_L_law 351 = .ok (.aload_n 0, 1) := by decide +kernel
theorem d_L_law_352 : decode b_L_law 352 = .ok (.iload 4, 2) := by decide +kernel
theorem d_L_law_354 : decode b_L_law 354 = .ok (.iconst 1, 1) := by decide +kernel
theorem d_L_law_355 : decode b_L_law 355 = .ok (.iadd, 1) := by decide +kernel
theorem d_L_law_356 : decode b_L_law 356 = .ok (.iaload, 1) := by decide +kernel
theorem d_L_law_357 : decode b_L_law 357 = .ok (.invokevirtual 62, 3) := by decide +kernel
theorem d_L_law_360 : decode b_L_law 360 = .ok (.if_icmp .eq 204, 3) := by decide +kernel
theorem d_L_law_363 : decode b_L_law 363 = .ok (.iconst 0, 1) := by decide +kernel
theorem d_L_law_364 : decode b_L_law 364 = .ok (.ireturn, 1) := by decide +kernel
theorem d_L_law_365 : decode b_L_law 365 = .ok (.aload_n 1, 1) := by decide +kernel
theorem d_L_law_366 : decode b_L_law 366 = .ok (.invokevirtual 63, 3) := by decide +kernel
theorem d_L_law_369 : decode b_L_law 369 = .ok (.aload_n 2, 1) := by decide +kernel
theorem d_L_law_370 : decode b_L_law 370 = .ok (.invokevirtual 66, 3) := by decide +kernel
theorem d_L_law_373 : decode b_L_law 373 = .ok (.goto 191, 3) := by decide +kernel
theorem d_L_law_376 : decode b_L_law 376 = .ok (.aload_n 1, 1) := by decide +kernel
theorem d_L_law_377 : decode b_L_law 377 = .ok (.invokevirtual 67, 3) := by decide +kernel
theorem d_L_law_380 : decode b_L_law 380 = .ok (.aload_n 2, 1) := by decide +kernel
theorem d_L_law_381 : decode b_L_law 381 = .ok (.invokevirtual 70, 3) := by decide +kernel
theorem d_L_law_384 : decode b_L_law 384 = .ok (.if_icmp .eq 180, 3) := by decide +kernel
theorem d_L_law_387 : decode b_L_law 387 = .ok (.iconst 0, 1) := by decide +kernel
theorem d_L_law_388 : decode b_L_law 388 = .ok (.ireturn, 1) := by decide +kernel
theorem d_L_law_389 : decode b_L_law 389 = .ok (.aload_n 1, 1) := by decide +kernel
theorem d_L_law_390 : decode b_L_law 390 = .ok (.aload_n 0, 1) := by decide +kernel
theorem d_L_law_391 : decode b_L_law 391 = .ok (.iload 4, 2) := by decide +kernel
theorem d_L_law_393 : decode b_L_law 393 = .ok (.iconst 1, 1) := by decide +kernel
theorem d_L_law_394 : decode b_L_law 394 = .ok (.iadd, 1) := by decide +kernel
theorem d_L_law_395 : decode b_L_law 395 = .ok (.iaload, 1) := by decide +kernel
theorem d_L_law_396 : decode b_L_law 396 = .ok (.aload_n 0, 1) := by decide +kernel
theorem d_L_law_397 : decode b_L_law 397 = .ok (.iload 4, 2) := by decide +kernel
theorem d_L_law_399 : decode b_L_law 399 = .ok (.iconst 2, 1) := by decide +kernel
theorem d_L_law_400 : decode b_L_law 400 = .ok (.iadd, 1) := by decide +kernel
theorem d_L_law_401 : decode b_L_law 401 = .ok (.iaload, 1) := by decide +kernel
theorem d_L_law_402 : decode b_L_law 402 = .ok (.aload_n 0, 1) := by decide +kernel
theorem d_L_law_403 : decode b_L_law 403 = .ok (.iload 4, 2) := by decide +kernel
theorem d_L_law_405 : decode b_L_law 405 = .ok (.iconst 3, 1) := by decide +kernel
theorem d_L_law_406 : decode b_L_law 406 = .ok (.iadd, 1) := by decide +kernel
theorem d_L_law_407 : decode b_L_law 407 = .ok (.iaload, 1) := by decide +kernel
theorem d_L_law_408 : decode b_L_law 408 = .ok (.invokevirtual 71, 3) := by decide +kernel
theorem d_L_law_411 : decode b_L_law 411 = .ok (.aload_n 2, 1) := by decide +kernel
theorem d_L_law_412 : decode b_L_law 412 = .ok (.aload_n 0, 1) := by decide +kernel
theorem d_L_law_413 : decode b_L_law 413 = .ok (.iload 4, 2) := by decide +kernel
theorem d_L_law_415 : decode b_L_law 415 = .ok (.iconst 1, 1) := by decide +kernel
theorem d_L_law_416 : decode b_L_law 416 = .ok (.iadd, 1) := by decide +kernel
theorem d_L_law_417 : decode b_L_law 417 = .ok (.iaload, 1) := by decide +kernel
theorem d_L_law_418 : decode b_L_law 418 = .ok (.aload_n 0, 1) := by decide +kernel
theorem d_L_law_419 : decode b_L_law 419 = .ok (.iload 4, 2) := by decide +kernel
theorem d_L_law_421 : decode b_L_law 421 = .ok (.iconst 2, 1) := by decide +kernel
theorem d_L_law_422 : decode b_L_law 422 = .ok (.iadd, 1) := by decide +kernel
theorem d_L_law_423 : decode b_L_law 423 = .ok (.iaload, 1) := by decide +kernel
theorem d_L_law_424 : decode b_L_law 424 = .ok (.aload_n 0, 1) := by decide +kernel
theorem d_L_law_425 : decode b_L_law 425 = .ok (.iload 4, 2) := by decide +kernel
theorem d_L_law_427 : decode b_L_law 427 = .ok (.iconst 3, 1) := by decide +kernel
theorem d_L_law_428 : decode b_L_law 428 = .ok (.iadd, 1) := by decide +kernel
theorem d_L_law_429 : decode b_L_law 429 = .ok (.iaload, 1) := by decide +kernel
theorem d_L_law_430 : decode b_L_law 430 = .ok (.invokevirtual 75, 3) := by decide +kernel
theorem d_L_law_433 : decode b_L_law 433 = .ok (.if_icmp .eq 131, 3) := by decide +kernel
theorem d_L_law_436 : decode b_L_law 436 = .ok (.iconst 0, 1) := by decide +kernel
theorem d_L_law_437 : decode b_L_law 437 = .ok (.ireturn, 1) := by decide +kernel
theorem d_L_law_438 : decode b_L_law 438 = .ok (.aload_n 1, 1) := by decide +kernel
theorem d_L_law_439 : decode b_L_law 439 = .ok (.aload_n 0, 1) := by decide +kernel
theorem d_L_law_440 : decode b_L_law 440 = .ok (.iload 4, 2) := by decide +kernel
theorem d_L_law_442 : decode b_L_law 442 = .ok (.iconst 1, 1) := by decide +kernel
theorem d_L_law_443 : decode b_L_law 443 = .ok (.iadd, 1) := by decide +kernel
theorem d_L_law_444 : decode b_L_law 444 = .ok (.iaload, 1) := by decide +kernel
theorem d_L_law_445 : decode b_L_law 445 = .ok (.invokevirtual 76, 3) := by decide +kernel
theorem d_L_law_448 : decode b_L_law 448 = .ok (.aload_n 2, 1) := by decide +kernel
theorem d_L_law_449 : decode b_L_law 449 = .ok (.aload_n 0, 1) := by decide +kernel
theorem d_L_law_450 : decode b_L_law 450 = .ok (.iload 4, 2) := by decide +kernel
theorem d_L_law_452 : decode b_L_law 452 = .ok (.iconst 1, 1) := by decide +kernel
theorem d_L_law_453 : decode b_L_law 453 = .ok (.iadd, 1) := by decide +kernel
theorem d_L_law_454 : decode b_L_law 454 = .ok (.iaload, 1) := by decide +kernel
theorem d_L_law_455 : decode b_L_law 455 = .ok (.invokevirtual 80, 3) := by decide +kernel
theorem d_L_law_458 : decode b_L_law 458 = .ok (.if_icmp .eq 106, 3) := by decide +kernel
theorem d_L_law_461 : decode b_L_law 461 = .ok (.iconst 0, 1) := by decide +kernel
theorem d_L_law_462 : decode b_L_law 462 = .ok (.ireturn, 1) := by decide +kernel
theorem d_L_law_463 : decode b_L_law 463 = .ok (.aload_n 1, 1) := by decide +kernel
theorem d_L_law_464 : decode b_L_law 464 = .ok (.aload_n 0, 1) := by decide +kernel
theorem d_L_law_465 : decode b_L_law 465 = .ok (.iload 4, 2) := by decide +kernel
theorem d_L_law_467 : decode b_L_law 467 = .ok (.iconst 1, 1) := by decide +kernel
theorem d_L_law_468 : decode b_L_law 468 = .ok (.iadd, 1) := by decide +kernel
theorem d_L_law_469 : decode b_L_law 469 = .ok (.iaload, 1) := by decide +kernel
theorem d_L_law_470 : decode b_L_law 470 = .ok (.aload_n 0, 1) := by decide +kernel
theorem d_L_law_471 : decode b_L_law 471 = .ok (.iload 4, 2) := by decide +kernel
theorem d_L_law_473 : decode b_L_law 473 = .ok (.iconst 2, 1) := by decide +kernel
theorem d_L_law_474 : decode b_L_law 474 = .ok (.iadd, 1) := by decide +kernel
theorem d_L_law_475 : decode b_L_law 475 = .ok (.iaload, 1) := by decide +kernel
theorem d_L_law_476 : decode b_L_law 476 = .ok (.invokevirtual 81, 3) := by decide +kernel
theorem d_L_law_479 : decode b_L_law 479 = .ok (.aload_n 2, 1) := by decide +kernel
theorem d_L_law_480 : decode b_L_law 480 = .ok (.aload_n 0, 1) := by decide +kernel
theorem d_L_law_481 : decode b_L_law 481 = .ok (.iload 4, 2) := by decide +kernel
theorem d_L_law_483 : decode b_L_law 483 = .ok (.iconst 1, 1) := by decide +kernel
theorem d_L_law_484 : decode b_L_law 484 = .ok (.iadd, 1) := by decide +kernel
theorem d_L_law_485 : decode b_L_law 485 = .ok (.iaload, 1) := by decide +kernel
theorem d_L_law_486 : decode b_L_law 486 = .ok (.aload_n 0, 1) := by decide +kernel
theorem d_L_law_487 : decode b_L_law 487 = .ok (.iload 4, 2) := by decide +kernel
theorem d_L_law_489 : decode b_L_law 489 = .ok (.iconst 2, 1) := by decide +kernel
theorem d_L_law_490 : decode b_L_law 490 = .ok (.iadd, 1) := by decide +kernel
theorem d_L_law_491 : decode b_L_law 491 = .ok (.iaload, 1) := by decide +kernel
theorem d_L_law_492 : decode b_L_law 492 = .ok (.invokevirtual 85, 3) := by decide +kernel
theorem d_L_law_495 : decode b_L_law 495 = .ok (.lcmp, 1) := by decide +kernel
theorem d_L_law_496 : decode b_L_law 496 = .ok (.ifCond .eq 68, 3) := by decide +kernel
theorem d_L_law_499 : decode b_L_law 499 = .ok (.iconst 0, 1) := by decide +kernel
theorem d_L_law_500 : decode b_L_law 500 = .ok (.ireturn, 1) := by decide +kernel
theorem d_L_law_501 : decode b_L_law 501 = .ok (.aload_n 1, 1) := by decide +kernel
theorem d_L_law_502 : decode b_L_law 502 = .ok (.aload_n 0, 1) := by decide +kernel
theorem d_L_law_503 : decode b_L_law 503 = .ok (.iload 4, 2) := by decide +kernel
theorem d_L_law_505 : decode b_L_law 505 = .ok (.iconst 1, 1) := by decide +kernel
theorem d_L_law_506 : decode b_L_law 506 = .ok (.iadd, 1) := by decide +kernel
theorem d_L_law_507 : decode b_L_law 507 = .ok (.iaload, 1) := by decide +kernel
theorem d_L_law_508 : decode b_L_law 508 = .ok (.aload_n 0, 1) := by decide +kernel
theorem d_L_law_509 : decode b_L_law 509 = .ok (.iload 4, 2) := by decide +kernel
theorem d_L_law_511 : decode b_L_law 511 = .ok (.iconst 2, 1) := by decide +kernel
theorem d_L_law_512 : decode b_L_law 512 = .ok (.iadd, 1) := by decide +kernel
theorem d_L_law_513 : decode b_L_law 513 = .ok (.iaload, 1) := by decide +kernel
theorem d_L_law_514 : decode b_L_law 514 = .ok (.invokevirtual 86, 3) := by decide +kernel
theorem d_L_law_517 : decode b_L_law 517 = .ok (.aload_n 2, 1) := by decide +kernel
theorem d_L_law_518 : decode b_L_law 518 = .ok (.aload_n 0, 1) := by decide +kernel
theorem d_L_law_519 : decode b_L_law 519 = .ok (.iload 4, 2) := by decide +kernel
theorem d_L_law_521 : decode b_L_law 521 = .ok (.iconst 1, 1) := by decide +kernel
theorem d_L_law_522 : decode b_L_law 522 = .ok (.iadd, 1) := by decide +kernel
theorem d_L_law_523 : decode b_L_law 523 = .ok (.iaload, 1) := by decide +kernel
theorem d_L_law_524 : decode b_L_law 524 = .ok (.aload_n 0, 1) := by decide +kernel
theorem d_L_law_525 : decode b_L_law 525 = .ok (.iload 4, 2) := by decide +kernel
theorem d_L_law_527 : decode b_L_law 527 = .ok (.iconst 2, 1) := by decide +kernel
theorem d_L_law_528 : decode b_L_law 528 = .ok (.iadd, 1) := by decide +kernel
theorem d_L_law_529 : decode b_L_law 529 = .ok (.iaload, 1) := by decide +kernel
theorem d_L_law_530 : decode b_L_law 530 = .ok (.invokevirtual 89, 3) := by decide +kernel
theorem d_L_law_533 : decode b_L_law 533 = .ok (.lcmp, 1) := by decide +kernel
theorem d_L_law_534 : decode b_L_law 534 = .ok (.ifCond .eq 30, 3) := by decide +kernel
theorem d_L_law_537 : decode b_L_law 537 = .ok (.iconst 0, 1) := by decide +kernel
theorem d_L_law_538 : decode b_L_law 538 = .ok (.ireturn, 1) := by decide +kernel
theorem d_L_law_539 : decode b_L_law 539 = .ok (.aload_n 1, 1) := by decide +kernel
theorem d_L_law_540 : decode b_L_law 540 = .ok (.aload_n 0, 1) := by decide +kernel
theorem d_L_law_541 : decode b_L_law 541 = .ok (.iload 4, 2) := by decide +kernel
theorem d_L_law_543 : decode b_L_law 543 = .ok (.iconst 1, 1) := by decide +kernel
theorem d_L_law_544 : decode b_L_law 544 = .ok (.iadd, 1) := by decide +kernel
theorem d_L_law_545 : decode b_L_law 545 = .ok (.iaload, 1) := by decide +kernel
theorem d_L_law_546 : decode b_L_law 546 = .ok (.invokevirtual 90, 3) := by decide +kernel
theorem d_L_law_549 : decode b_L_law 549 = .ok (.aload_n 2, 1) := by decide +kernel
theorem d_L_law_550 : decode b_L_law 550 = .ok (.aload_n 0, 1) := by decide +kernel
theorem d_L_law_551 : decode b_L_law 551 = .ok (.iload 4, 2) := by decide +kernel
theorem d_L_law_553 : decode b_L_law 553 = .ok (.iconst 1, 1) := by decide +kernel
theorem d_L_law_554 : decode b_L_law 554 = .ok (.iadd, 1) := by decide +kernel
theorem d_L_law_555 : decode b_L_law 555 = .ok (.iaload, 1) := by decide +kernel
theorem d_L_law_556 : decode b_L_law 556 = .ok (.invokevirtual 93, 3) := by decide +kernel
theorem d_L_law_559 : decode b_L_law 559 = .ok (.if_icmp .eq 5, 3) := by decide +kernel
theorem d_L_law_562 : decode b_L_law 562 = .ok (.iconst 0, 1) := by decide +kernel
theorem d_L_law_563 : decode b_L_law 563 = .ok (.ireturn, 1) := by decide +kernel
theorem d_L_law_564 : decode b_L_law 564 = .ok (.iinc 4 4, 3) := by decide +kernel
theorem d_L_law_567 : decode b_L_law 567 = .ok (.goto (-544), 3) := by decide +kernel
theorem d_L_law_570 : decode b_L_law 570 = .ok (.iconst 1, 1) := by decide +kernel
theorem d_L_law_571 : decode b_L_law 571 = .ok (.ireturn, 1) := by decide +kernel

/-! The law: decode rows. Written by wip/whole/gen/genL0.py. -/
theorem dL_law_0 : decode code 0 = .ok (.new 8, 3) := by decide +kernel
theorem dL_law_3 : decode code 3 = .ok (.dup, 1) := by decide +kernel
theorem dL_law_4 : decode code 4 = .ok (.invokespecial 58, 3) := by decide +kernel
theorem dL_law_7 : decode code 7 = .ok (.astore_n 1, 1) := by decide +kernel
theorem dL_law_8 : decode code 8 = .ok (.new 59, 3) := by decide +kernel
theorem dL_law_11 : decode code 11 = .ok (.dup, 1) := by decide +kernel
theorem dL_law_12 : decode code 12 = .ok (.invokespecial 61, 3) := by decide +kernel
theorem dL_law_15 : decode code 15 = .ok (.astore_n 2, 1) := by decide +kernel
theorem dL_law_16 : decode code 16 = .ok (.iconst 1, 1) := by decide +kernel
theorem dL_law_17 : decode code 17 = .ok (.newarray .long, 2) := by decide +kernel
theorem dL_law_19 : decode code 19 = .ok (.astore_n 3, 1) := by decide +kernel
theorem dL_law_20 : decode code 20 = .ok (.iconst 0, 1) := by decide +kernel
theorem dL_law_21 : decode code 21 = .ok (.istore 4, 2) := by decide +kernel
theorem dL_law_23 : decode code 23 = .ok (.iload 4, 2) := by decide +kernel
theorem dL_law_25 : decode code 25 = .ok (.aload_n 0, 1) := by decide +kernel
theorem dL_law_26 : decode code 26 = .ok (.arraylength, 1) := by decide +kernel
theorem dL_law_27 : decode code 27 = .ok (.iconst 4, 1) := by decide +kernel
theorem dL_law_28 : decode code 28 = .ok (.isub, 1) := by decide +kernel
theorem dL_law_29 : decode code 29 = .ok (.if_icmp .gt 1174, 3) := by decide +kernel
theorem dL_law_32 : decode code 32 = .ok (.aload_n 0, 1) := by decide +kernel
theorem dL_law_33 : decode code 33 = .ok (.iload 4, 2) := by decide +kernel
theorem dL_law_35 : decode code 35 = .ok (.iaload, 1) := by decide +kernel
theorem dL_law_36 : decode code 36 = .ok (.bipush 31, 2) := by decide +kernel
theorem dL_law_38 : decode code 38 = .ok (.iand, 1) := by decide +kernel
theorem dL_law_39 : decode code 39 = .ok (.tableswitch 1158 0 17 #[85, 98, 166, 234, 302, 370, 438, 518, 543, 618, 674, 742, 817, 873, 953, 1021, 1046, 1133], 85) := by decide +kernel
theorem dL_law_124 : decode code 124 = .ok (.aload_n 1, 1) := by decide +kernel
theorem dL_law_125 : decode code 125 = .ok (.invokevirtual 62, 3) := by decide +kernel
theorem dL_law_128 : decode code 128 = .ok (.aload_n 2, 1) := by decide +kernel
theorem dL_law_129 : decode code 129 = .ok (.invokevirtual 66, 3) := by decide +kernel
theorem dL_law_132 : decode code 132 = .ok (.if_icmp .eq 1065, 3) := by decide +kernel
theorem dL_law_135 : decode code 135 = .ok (.iconst 0, 1) := by decide +kernel
theorem dL_law_136 : decode code 136 = .ok (.ireturn, 1) := by decide +kernel
theorem dL_law_137 : decode code 137 = .ok (.aload_n 1, 1) := by decide +kernel
theorem dL_law_138 : decode code 138 = .ok (.aload_n 0, 1) := by decide +kernel
theorem dL_law_139 : decode code 139 = .ok (.iload 4, 2) := by decide +kernel
theorem dL_law_141 : decode code 141 = .ok (.iconst 1, 1) := by decide +kernel
theorem dL_law_142 : decode code 142 = .ok (.iadd, 1) := by decide +kernel
theorem dL_law_143 : decode code 143 = .ok (.iaload, 1) := by decide +kernel
theorem dL_law_144 : decode code 144 = .ok (.aload_n 0, 1) := by decide +kernel
theorem dL_law_145 : decode code 145 = .ok (.iload 4, 2) := by decide +kernel
theorem dL_law_147 : decode code 147 = .ok (.iconst 2, 1) := by decide +kernel
theorem dL_law_148 : decode code 148 = .ok (.iadd, 1) := by decide +kernel
theorem dL_law_149 : decode code 149 = .ok (.iaload, 1) := by decide +kernel
theorem dL_law_150 : decode code 150 = .ok (.aload_n 3, 1) := by decide +kernel
theorem dL_law_151 : decode code 151 = .ok (.invokestatic 67, 3) := by decide +kernel
theorem dL_law_154 : decode code 154 = .ok (.istore 5, 2) := by decide +kernel
theorem dL_law_156 : decode code 156 = .ok (.aload_n 2, 1) := by decide +kernel
theorem dL_law_157 : decode code 157 = .ok (.aload_n 0, 1) := by decide +kernel
theorem dL_law_158 : decode code 158 = .ok (.iload 4, 2) := by decide +kernel
theorem dL_law_160 : decode code 160 = .ok (.iconst 1, 1) := by decide +kernel
theorem dL_law_161 : decode code 161 = .ok (.iadd, 1) := by decide +kernel
theorem dL_law_162 : decode code 162 = .ok (.iaload, 1) := by decide +kernel
theorem dL_law_163 : decode code 163 = .ok (.aload_n 0, 1) := by decide +kernel
theorem dL_law_164 : decode code 164 = .ok (.iload 4, 2) := by decide +kernel
theorem dL_law_166 : decode code 166 = .ok (.iconst 2, 1) := by decide +kernel
theorem dL_law_167 : decode code 167 = .ok (.iadd, 1) := by decide +kernel
theorem dL_law_168 : decode code 168 = .ok (.iaload, 1) := by decide +kernel
theorem dL_law_169 : decode code 169 = .ok (.invokevirtual 72, 3) := by decide +kernel
theorem dL_law_172 : decode code 172 = .ok (.istore 6, 2) := by decide +kernel
theorem dL_law_174 : decode code 174 = .ok (.aload_n 2, 1) := by decide +kernel
theorem dL_law_175 : decode code 175 = .ok (.invokevirtual 73, 3) := by decide +kernel
theorem dL_law_178 : decode code 178 = .ok (.iload 5, 2) := by decide +kernel
theorem dL_law_180 : decode code 180 = .ok (.if_icmp .eq 5, 3) := by decide +kernel
theorem dL_law_183 : decode code 183 = .ok (.iconst 0, 1) := by decide +kernel
theorem dL_law_184 : decode code 184 = .ok (.ireturn, 1) := by decide +kernel
theorem dL_law_185 : decode code 185 = .ok (.iload 5, 2) := by decide +kernel
theorem dL_law_187 : decode code 187 = .ok (.ifCond .ne 15, 3) := by decide +kernel
theorem dL_law_190 : decode code 190 = .ok (.aload_n 3, 1) := by decide +kernel
theorem dL_law_191 : decode code 191 = .ok (.iconst 0, 1) := by decide +kernel
theorem dL_law_192 : decode code 192 = .ok (.laload, 1) := by decide +kernel
theorem dL_law_193 : decode code 193 = .ok (.iload 6, 2) := by decide +kernel
theorem dL_law_195 : decode code 195 = .ok (.i2l, 1) := by decide +kernel
theorem dL_law_196 : decode code 196 = .ok (.lcmp, 1) := by decide +kernel
theorem dL_law_197 : decode code 197 = .ok (.ifCond .eq 5, 3) := by decide +kernel
theorem dL_law_200 : decode code 200 = .ok (.iconst 0, 1) := by decide +kernel
theorem dL_law_201 : decode code 201 = .ok (.ireturn, 1) := by decide +kernel
theorem dL_law_202 : decode code 202 = .ok (.goto 995, 3) := by decide +kernel
theorem dL_law_205 : decode code 205 = .ok (.aload_n 1, 1) := by decide +kernel
theorem dL_law_206 : decode code 206 = .ok (.aload_n 0, 1) := by decide +kernel
theorem dL_law_207 : decode code 207 = .ok (.iload 4, 2) := by decide +kernel
theorem dL_law_209 : decode code 209 = .ok (.iconst 1, 1) := by decide +kernel
theorem dL_law_210 : decode code 210 = .ok (.iadd, 1) := by decide +kernel
theorem dL_law_211 : decode code 211 = .ok (.iaload, 1) := by decide +kernel
theorem dL_law_212 : decode code 212 = .ok (.aload_n 0, 1) := by decide +kernel
theorem dL_law_213 : decode code 213 = .ok (.iload 4, 2) := by decide +kernel
theorem dL_law_215 : decode code 215 = .ok (.iconst 2, 1) := by decide +kernel
theorem dL_law_216 : decode code 216 = .ok (.iadd, 1) := by decide +kernel
theorem dL_law_217 : decode code 217 = .ok (.iaload, 1) := by decide +kernel
theorem dL_law_218 : decode code 218 = .ok (.aload_n 3, 1) := by decide +kernel
theorem dL_law_219 : decode code 219 = .ok (.invokestatic 76, 3) := by decide +kernel
theorem dL_law_222 : decode code 222 = .ok (.istore 5, 2) := by decide +kernel
theorem dL_law_224 : decode code 224 = .ok (.aload_n 2, 1) := by decide +kernel
theorem dL_law_225 : decode code 225 = .ok (.aload_n 0, 1) := by decide +kernel
theorem dL_law_226 : decode code 226 = .ok (.iload 4, 2) := by decide +kernel
theorem dL_law_228 : decode code 228 = .ok (.iconst 1, 1) := by decide +kernel
theorem dL_law_229 : decode code 229 = .ok (.iadd, 1) := by decide +kernel
theorem dL_law_230 : decode code 230 = .ok (.iaload, 1) := by decide +kernel
theorem dL_law_231 : decode code 231 = .ok (.aload_n 0, 1) := by decide +kernel
theorem dL_law_232 : decode code 232 = .ok (.iload 4, 2) := by decide +kernel
theorem dL_law_234 : decode code 234 = .ok (.iconst 2, 1) := by decide +kernel
theorem dL_law_235 : decode code 235 = .ok (.iadd, 1) := by decide +kernel
theorem dL_law_236 : decode code 236 = .ok (.iaload, 1) := by decide +kernel
theorem dL_law_237 : decode code 237 = .ok (.invokevirtual 78, 3) := by decide +kernel
theorem dL_law_240 : decode code 240 = .ok (.istore 6, 2) := by decide +kernel
theorem dL_law_242 : decode code 242 = .ok (.aload_n 2, 1) := by decide +kernel
theorem dL_law_243 : decode code 243 = .ok (.invokevirtual 73, 3) := by decide +kernel
theorem dL_law_246 : decode code 246 = .ok (.iload 5, 2) := by decide +kernel
theorem dL_law_248 : decode code 248 = .ok (.if_icmp .eq 5, 3) := by decide +kernel
theorem dL_law_251 : decode code 251 = .ok (.iconst 0, 1) := by decide +kernel
theorem dL_law_252 : decode code 252 = .ok (.ireturn, 1) := by decide +kernel
theorem dL_law_253 : decode code 253 = .ok (.iload 5, 2) := by decide +kernel
theorem dL_law_255 : decode code 255 = .ok (.ifCond .ne 15, 3) := by decide +kernel
theorem dL_law_258 : decode code 258 = .ok (.aload_n 3, 1) := by decide +kernel
theorem dL_law_259 : decode code 259 = .ok (.iconst 0, 1) := by decide +kernel
theorem dL_law_260 : decode code 260 = .ok (.laload, 1) := by decide +kernel
theorem dL_law_261 : decode code 261 = .ok (.iload 6, 2) := by decide +kernel
theorem dL_law_263 : decode code 263 = .ok (.i2l, 1) := by decide +kernel
theorem dL_law_264 : decode code 264 = .ok (.lcmp, 1) := by decide +kernel
theorem dL_law_265 : decode code 265 = .ok (.ifCond .eq 5, 3) := by decide +kernel
theorem dL_law_268 : decode code 268 = .ok (.iconst 0, 1) := by decide +kernel
theorem dL_law_269 : decode code 269 = .ok (.ireturn, 1) := by decide +kernel
theorem dL_law_270 : decode code 270 = .ok (.goto 927, 3) := by decide +kernel
theorem dL_law_273 : decode code 273 = .ok (.aload_n 1, 1) := by decide +kernel
theorem dL_law_274 : decode code 274 = .ok (.aload_n 0, 1) := by decide +kernel
theorem dL_law_275 : decode code 275 = .ok (.iload 4, 2) := by decide +kernel
theorem dL_law_277 : decode code 277 = .ok (.iconst 1, 1) := by decide +kernel
theorem dL_law_278 : decode code 278 = .ok (.iadd, 1) := by decide +kernel
theorem dL_law_279 : decode code 279 = .ok (.iaload, 1) := by decide +kernel
theorem dL_law_280 : decode code 280 = .ok (.aload_n 0, 1) := by decide +kernel
theorem dL_law_281 : decode code 281 = .ok (.iload 4, 2) := by decide +kernel
theorem dL_law_283 : decode code 283 = .ok (.iconst 2, 1) := by decide +kernel
theorem dL_law_284 : decode code 284 = .ok (.iadd, 1) := by decide +kernel
theorem dL_law_285 : decode code 285 = .ok (.iaload, 1) := by decide +kernel
theorem dL_law_286 : decode code 286 = .ok (.aload_n 3, 1) := by decide +kernel
theorem dL_law_287 : decode code 287 = .ok (.invokestatic 79, 3) := by decide +kernel
theorem dL_law_290 : decode code 290 = .ok (.istore 5, 2) := by decide +kernel
theorem dL_law_292 : decode code 292 = .ok (.aload_n 2, 1) := by decide +kernel
theorem dL_law_293 : decode code 293 = .ok (.aload_n 0, 1) := by decide +kernel
theorem dL_law_294 : decode code 294 = .ok (.iload 4, 2) := by decide +kernel
theorem dL_law_296 : decode code 296 = .ok (.iconst 1, 1) := by decide +kernel
theorem dL_law_297 : decode code 297 = .ok (.iadd, 1) := by decide +kernel
theorem dL_law_298 : decode code 298 = .ok (.iaload, 1) := by decide +kernel
theorem dL_law_299 : decode code 299 = .ok (.aload_n 0, 1) := by decide +kernel
theorem dL_law_300 : decode code 300 = .ok (.iload 4, 2) := by decide +kernel
theorem dL_law_302 : decode code 302 = .ok (.iconst 2, 1) := by decide +kernel
theorem dL_law_303 : decode code 303 = .ok (.iadd, 1) := by decide +kernel
theorem dL_law_304 : decode code 304 = .ok (.iaload, 1) := by decide +kernel
theorem dL_law_305 : decode code 305 = .ok (.invokevirtual 81, 3) := by decide +kernel
theorem dL_law_308 : decode code 308 = .ok (.istore 6, 2) := by decide +kernel
theorem dL_law_310 : decode code 310 = .ok (.aload_n 2, 1) := by decide +kernel
theorem dL_law_311 : decode code 311 = .ok (.invokevirtual 73, 3) := by decide +kernel
theorem dL_law_314 : decode code 314 = .ok (.iload 5, 2) := by decide +kernel
theorem dL_law_316 : decode code 316 = .ok (.if_icmp .eq 5, 3) := by decide +kernel
theorem dL_law_319 : decode code 319 = .ok (.iconst 0, 1) := by decide +kernel
theorem dL_law_320 : decode code 320 = .ok (.ireturn, 1) := by decide +kernel
theorem dL_law_321 : decode code 321 = .ok (.iload 5, 2) := by decide +kernel
theorem dL_law_323 : decode code 323 = .ok (.ifCond .ne 15, 3) := by decide +kernel
theorem dL_law_326 : decode code 326 = .ok (.aload_n 3, 1) := by decide +kernel
theorem dL_law_327 : decode code 327 = .ok (.iconst 0, 1) := by decide +kernel
theorem dL_law_328 : decode code 328 = .ok (.laload, 1) := by decide +kernel
theorem dL_law_329 : decode code 329 = .ok (.iload 6, 2) := by decide +kernel
theorem dL_law_331 : decode code 331 = .ok (.i2l, 1) := by decide +kernel
theorem dL_law_332 : decode code 332 = .ok (.lcmp, 1) := by decide +kernel
theorem dL_law_333 : decode code 333 = .ok (.ifCond .eq 5, 3) := by decide +kernel
theorem dL_law_336 : decode code 336 = .ok (.iconst 0, 1) := by decide +kernel
theorem dL_law_337 : decode code 337 = .ok (.ireturn, 1) := by decide +kernel
theorem dL_law_338 : decode code 338 = .ok (.goto 859, 3) := by decide +kernel
theorem dL_law_341 : decode code 341 = .ok (.aload_n 1, 1) := by decide +kernel
theorem dL_law_342 : decode code 342 = .ok (.aload_n 0, 1) := by decide +kernel
theorem dL_law_343 : decode code 343 = .ok (.iload 4, 2) := by decide +kernel
theorem dL_law_345 : decode code 345 = .ok (.iconst 1, 1) := by decide +kernel
theorem dL_law_346 : decode code 346 = .ok (.iadd, 1) := by decide +kernel
theorem dL_law_347 : decode code 347 = .ok (.iaload, 1) := by decide +kernel
theorem dL_law_348 : decode code 348 = .ok (.aload_n 0, 1) := by decide +kernel
theorem dL_law_349 : decode code 349 = .ok (.iload 4, 2) := by decide +kernel
theorem dL_law_351 : decode code 351 = .ok (.iconst 2, 1) := by decide +kernel
theorem dL_law_352 : decode code 352 = .ok (.iadd, 1) := by decide +kernel
theorem dL_law_353 : decode code 353 = .ok (.iaload, 1) := by decide +kernel
theorem dL_law_354 : decode code 354 = .ok (.aload_n 3, 1) := by decide +kernel
theorem dL_law_355 : decode code 355 = .ok (.invokestatic 82, 3) := by decide +kernel
theorem dL_law_358 : decode code 358 = .ok (.istore 5, 2) := by decide +kernel
theorem dL_law_360 : decode code 360 = .ok (.aload_n 2, 1) := by decide +kernel
theorem dL_law_361 : decode code 361 = .ok (.aload_n 0, 1) := by decide +kernel
theorem dL_law_362 : decode code 362 = .ok (.iload 4, 2) := by decide +kernel

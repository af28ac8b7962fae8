theorem dL_law_0 : decode cL_law 0 = .ok (.new 7, 3) := by decide +kernel
theorem dL_law_3 : decode cL_law 3 = .ok (.dup, 1) := by decide +kernel
theorem dL_law_4 : decode cL_law 4 = .ok (.invokespecial 9, 3) := by decide +kernel
theorem dL_law_7 : decode cL_law 7 = .ok (.astore_n 1, 1) := by decide +kernel
theorem dL_law_8 : decode cL_law 8 = .ok (.new 10, 3) := by decide +kernel
theorem dL_law_11 : decode cL_law 11 = .ok (.dup, 1) := by decide +kernel
theorem dL_law_12 : decode cL_law 12 = .ok (.invokespecial 12, 3) := by decide +kernel
theorem dL_law_15 : decode cL_law 15 = .ok (.astore_n 2, 1) := by decide +kernel
theorem dL_law_16 : decode cL_law 16 = .ok (.iconst 0, 1) := by decide +kernel
theorem dL_law_17 : decode cL_law 17 = .ok (.istore_n 3, 1) := by decide +kernel
theorem dL_law_18 : decode cL_law 18 = .ok (.iload_n 3, 1) := by decide +kernel
theorem dL_law_19 : decode cL_law 19 = .ok (.aload_n 0, 1) := by decide +kernel
theorem dL_law_20 : decode cL_law 20 = .ok (.arraylength, 1) := by decide +kernel
theorem dL_law_21 : decode cL_law 21 = .ok (.iconst 4, 1) := by decide +kernel
theorem dL_law_22 : decode cL_law 22 = .ok (.isub, 1) := by decide +kernel
theorem dL_law_23 : decode cL_law 23 = .ok (.if_icmp .gt 381, 3) := by decide +kernel
theorem dL_law_26 : decode cL_law 26 = .ok (.aload_n 0, 1) := by decide +kernel
theorem dL_law_27 : decode cL_law 27 = .ok (.iload_n 3, 1) := by decide +kernel
theorem dL_law_28 : decode cL_law 28 = .ok (.iaload, 1) := by decide +kernel
theorem dL_law_29 : decode cL_law 29 = .ok (.bipush 15, 2) := by decide +kernel
theorem dL_law_31 : decode cL_law 31 = .ok (.iand, 1) := by decide +kernel
theorem dL_law_32 : decode cL_law 32 = .ok (.tableswitch 366 0 10 #[60, 123, 147, 160, 183, 196, 220, 243, 287, 320, 343], 60) := by decide +kernel
theorem dL_law_92 : decode cL_law 92 = .ok (.aload_n 1, 1) := by decide +kernel
theorem dL_law_93 : decode cL_law 93 = .ok (.aload_n 0, 1) := by decide +kernel
theorem dL_law_94 : decode cL_law 94 = .ok (.iload_n 3, 1) := by decide +kernel
theorem dL_law_95 : decode cL_law 95 = .ok (.iconst 1, 1) := by decide +kernel
theorem dL_law_96 : decode cL_law 96 = .ok (.iadd, 1) := by decide +kernel
theorem dL_law_97 : decode cL_law 97 = .ok (.iaload, 1) := by decide +kernel
theorem dL_law_98 : decode cL_law 98 = .ok (.i2l, 1) := by decide +kernel
theorem dL_law_99 : decode cL_law 99 = .ok (.bipush 32, 2) := by decide +kernel
theorem dL_law_101 : decode cL_law 101 = .ok (.lshl, 1) := by decide +kernel
theorem dL_law_102 : decode cL_law 102 = .ok (.aload_n 0, 1) := by decide +kernel
theorem dL_law_103 : decode cL_law 103 = .ok (.iload_n 3, 1) := by decide +kernel
theorem dL_law_104 : decode cL_law 104 = .ok (.iconst 2, 1) := by decide +kernel
theorem dL_law_105 : decode cL_law 105 = .ok (.iadd, 1) := by decide +kernel
theorem dL_law_106 : decode cL_law 106 = .ok (.iaload, 1) := by decide +kernel
theorem dL_law_107 : decode cL_law 107 = .ok (.i2l, 1) := by decide +kernel
theorem dL_law_108 : decode cL_law 108 = .ok (.ldc2_w 13, 3) := by decide +kernel
theorem dL_law_111 : decode cL_law 111 = .ok (.land, 1) := by decide +kernel
theorem dL_law_112 : decode cL_law 112 = .ok (.lor, 1) := by decide +kernel
theorem dL_law_113 : decode cL_law 113 = .ok (.aload_n 0, 1) := by decide +kernel
theorem dL_law_114 : decode cL_law 114 = .ok (.iload_n 3, 1) := by decide +kernel
theorem dL_law_115 : decode cL_law 115 = .ok (.iconst 3, 1) := by decide +kernel
theorem dL_law_116 : decode cL_law 116 = .ok (.iadd, 1) := by decide +kernel
theorem dL_law_117 : decode cL_law 117 = .ok (.iaload, 1) := by decide +kernel
theorem dL_law_118 : decode cL_law 118 = .ok (.invokevirtual 15, 3) := by decide +kernel
theorem dL_law_121 : decode cL_law 121 = .ok (.aload_n 2, 1) := by decide +kernel
theorem dL_law_122 : decode cL_law 122 = .ok (.aload_n 0, 1) := by decide +kernel
theorem dL_law_123 : decode cL_law 123 = .ok (.iload_n 3, 1) := by decide +kernel
theorem dL_law_124 : decode cL_law 124 = .ok (.iconst 1, 1) := by decide +kernel
theorem dL_law_125 : decode cL_law 125 = .ok (.iadd, 1) := by decide +kernel
theorem dL_law_126 : decode cL_law 126 = .ok (.iaload, 1) := by decide +kernel
theorem dL_law_127 : decode cL_law 127 = .ok (.i2l, 1) := by decide +kernel
theorem dL_law_128 : decode cL_law 128 = .ok (.bipush 32, 2) := by decide +kernel
theorem dL_law_130 : decode cL_law 130 = .ok (.lshl, 1) := by decide +kernel
theorem dL_law_131 : decode cL_law 131 = .ok (.aload_n 0, 1) := by decide +kernel
theorem dL_law_132 : decode cL_law 132 = .ok (.iload_n 3, 1) := by decide +kernel
theorem dL_law_133 : decode cL_law 133 = .ok (.iconst 2, 1) := by decide +kernel
theorem dL_law_134 : decode cL_law 134 = .ok (.iadd, 1) := by decide +kernel
theorem dL_law_135 : decode cL_law 135 = .ok (.iaload, 1) := by decide +kernel
theorem dL_law_136 : decode cL_law 136 = .ok (.i2l, 1) := by decide +kernel
theorem dL_law_137 : decode cL_law 137 = .ok (.ldc2_w 13, 3) := by decide +kernel
theorem dL_law_140 : decode cL_law 140 = .ok (.land, 1) := by decide +kernel
theorem dL_law_141 : decode cL_law 141 = .ok (.lor, 1) := by decide +kernel
theorem dL_law_142 : decode cL_law 142 = .ok (.aload_n 0, 1) := by decide +kernel
theorem dL_law_143 : decode cL_law 143 = .ok (.iload_n 3, 1) := by decide +kernel
theorem dL_law_144 : decode cL_law 144 = .ok (.iconst 3, 1) := by decide +kernel
theorem dL_law_145 : decode cL_law 145 = .ok (.iadd, 1) := by decide +kernel
theorem dL_law_146 : decode cL_law 146 = .ok (.iaload, 1) := by decide +kernel
theorem dL_law_147 : decode cL_law 147 = .ok (.invokevirtual 19, 3) := by decide +kernel
theorem dL_law_150 : decode cL_law 150 = .ok (.if_icmp .eq 248, 3) := by decide +kernel
theorem dL_law_153 : decode cL_law 153 = .ok (.iconst 0, 1) := by decide +kernel
theorem dL_law_154 : decode cL_law 154 = .ok (.ireturn, 1) := by decide +kernel
theorem dL_law_155 : decode cL_law 155 = .ok (.aload_n 1, 1) := by decide +kernel
theorem dL_law_156 : decode cL_law 156 = .ok (.aload_n 0, 1) := by decide +kernel
theorem dL_law_157 : decode cL_law 157 = .ok (.iload_n 3, 1) := by decide +kernel
theorem dL_law_158 : decode cL_law 158 = .ok (.iconst 1, 1) := by decide +kernel
theorem dL_law_159 : decode cL_law 159 = .ok (.iadd, 1) := by decide +kernel
theorem dL_law_160 : decode cL_law 160 = .ok (.iaload, 1) := by decide +kernel
theorem dL_law_161 : decode cL_law 161 = .ok (.invokevirtual 20, 3) := by decide +kernel
theorem dL_law_164 : decode cL_law 164 = .ok (.aload_n 2, 1) := by decide +kernel
theorem dL_law_165 : decode cL_law 165 = .ok (.aload_n 0, 1) := by decide +kernel
theorem dL_law_166 : decode cL_law 166 = .ok (.iload_n 3, 1) := by decide +kernel
theorem dL_law_167 : decode cL_law 167 = .ok (.iconst 1, 1) := by decide +kernel
theorem dL_law_168 : decode cL_law 168 = .ok (.iadd, 1) := by decide +kernel
theorem dL_law_169 : decode cL_law 169 = .ok (.iaload, 1) := by decide +kernel
theorem dL_law_170 : decode cL_law 170 = .ok (.invokevirtual 24, 3) := by decide +kernel
theorem dL_law_173 : decode cL_law 173 = .ok (.lcmp, 1) := by decide +kernel
theorem dL_law_174 : decode cL_law 174 = .ok (.ifCond .eq 224, 3) := by decide +kernel
theorem dL_law_177 : decode cL_law 177 = .ok (.iconst 0, 1) := by decide +kernel
theorem dL_law_178 : decode cL_law 178 = .ok (.ireturn, 1) := by decide +kernel
theorem dL_law_179 : decode cL_law 179 = .ok (.aload_n 1, 1) := by decide +kernel
theorem dL_law_180 : decode cL_law 180 = .ok (.invokevirtual 25, 3) := by decide +kernel
theorem dL_law_183 : decode cL_law 183 = .ok (.aload_n 2, 1) := by decide +kernel
theorem dL_law_184 : decode cL_law 184 = .ok (.invokevirtual 29, 3) := by decide +kernel
theorem dL_law_187 : decode cL_law 187 = .ok (.if_icmp .eq 211, 3) := by decide +kernel
theorem dL_law_190 : decode cL_law 190 = .ok (.iconst 0, 1) := by decide +kernel
theorem dL_law_191 : decode cL_law 191 = .ok (.ireturn, 1) := by decide +kernel
theorem dL_law_192 : decode cL_law 192 = .ok (.aload_n 1, 1) := by decide +kernel
theorem dL_law_193 : decode cL_law 193 = .ok (.aload_n 0, 1) := by decide +kernel
theorem dL_law_194 : decode cL_law 194 = .ok (.iload_n 3, 1) := by decide +kernel
theorem dL_law_195 : decode cL_law 195 = .ok (.iconst 1, 1) := by decide +kernel
theorem dL_law_196 : decode cL_law 196 = .ok (.iadd, 1) := by decide +kernel
theorem dL_law_197 : decode cL_law 197 = .ok (.iaload, 1) := by decide +kernel
theorem dL_law_198 : decode cL_law 198 = .ok (.invokevirtual 30, 3) := by decide +kernel
theorem dL_law_201 : decode cL_law 201 = .ok (.aload_n 2, 1) := by decide +kernel
theorem dL_law_202 : decode cL_law 202 = .ok (.aload_n 0, 1) := by decide +kernel
theorem dL_law_203 : decode cL_law 203 = .ok (.iload_n 3, 1) := by decide +kernel
theorem dL_law_204 : decode cL_law 204 = .ok (.iconst 1, 1) := by decide +kernel
theorem dL_law_205 : decode cL_law 205 = .ok (.iadd, 1) := by decide +kernel
theorem dL_law_206 : decode cL_law 206 = .ok (.iaload, 1) := by decide +kernel
theorem dL_law_207 : decode cL_law 207 = .ok (.invokevirtual 34, 3) := by decide +kernel
theorem dL_law_210 : decode cL_law 210 = .ok (.if_icmp .eq 188, 3) := by decide +kernel
theorem dL_law_213 : decode cL_law 213 = .ok (.iconst 0, 1) := by decide +kernel
theorem dL_law_214 : decode cL_law 214 = .ok (.ireturn, 1) := by decide +kernel
theorem dL_law_215 : decode cL_law 215 = .ok (.aload_n 1, 1) := by decide +kernel
theorem dL_law_216 : decode cL_law 216 = .ok (.invokevirtual 35, 3) := by decide +kernel
theorem dL_law_219 : decode cL_law 219 = .ok (.aload_n 2, 1) := by decide +kernel
theorem dL_law_220 : decode cL_law 220 = .ok (.invokevirtual 38, 3) := by decide +kernel
theorem dL_law_223 : decode cL_law 223 = .ok (.if_icmp .eq 175, 3) := by decide +kernel
theorem dL_law_226 : decode cL_law 226 = .ok (.iconst 0, 1) := by decide +kernel
theorem dL_law_227 : decode cL_law 227 = .ok (.ireturn, 1) := by decide +kernel
theorem dL_law_228 : decode cL_law 228 = .ok (.aload_n 1, 1) := by decide +kernel
theorem dL_law_229 : decode cL_law 229 = .ok (.aload_n 0, 1) := by decide +kernel
theorem dL_law_230 : decode cL_law 230 = .ok (.iload_n 3, 1) := by decide +kernel
theorem dL_law_231 : decode cL_law 231 = .ok (.iconst 1, 1) := by decide +kernel
theorem dL_law_232 : decode cL_law 232 = .ok (.iadd, 1) := by decide +kernel
theorem dL_law_233 : decode cL_law 233 = .ok (.iaload, 1) := by decide +kernel
theorem dL_law_234 : decode cL_law 234 = .ok (.invokevirtual 39, 3) := by decide +kernel
theorem dL_law_237 : decode cL_law 237 = .ok (.aload_n 2, 1) := by decide +kernel
theorem dL_law_238 : decode cL_law 238 = .ok (.aload_n 0, 1) := by decide +kernel
theorem dL_law_239 : decode cL_law 239 = .ok (.iload_n 3, 1) := by decide +kernel
theorem dL_law_240 : decode cL_law 240 = .ok (.iconst 1, 1) := by decide +kernel
theorem dL_law_241 : decode cL_law 241 = .ok (.iadd, 1) := by decide +kernel
theorem dL_law_242 : decode cL_law 242 = .ok (.iaload, 1) := by decide +kernel
theorem dL_law_243 : decode cL_law 243 = .ok (.invokevirtual 42, 3) := by decide +kernel
theorem dL_law_246 : decode cL_law 246 = .ok (.lcmp, 1) := by decide +kernel
theorem dL_law_247 : decode cL_law 247 = .ok (.ifCond .eq 151, 3) := by decide +kernel
theorem dL_law_250 : decode cL_law 250 = .ok (.iconst 0, 1) := by decide +kernel
theorem dL_law_251 : decode cL_law 251 = .ok (.ireturn, 1) := by decide +kernel
theorem dL_law_252 : decode cL_law 252 = .ok (.aload_n 1, 1) := by decide +kernel
theorem dL_law_253 : decode cL_law 253 = .ok (.aload_n 0, 1) := by decide +kernel
theorem dL_law_254 : decode cL_law 254 = .ok (.iload_n 3, 1) := by decide +kernel
theorem dL_law_255 : decode cL_law 255 = .ok (.iconst 1, 1) := by decide +kernel
theorem dL_law_256 : decode cL_law 256 = .ok (.iadd, 1) := by decide +kernel
theorem dL_law_257 : decode cL_law 257 = .ok (.iaload, 1) := by decide +kernel
theorem dL_law_258 : decode cL_law 258 = .ok (.invokevirtual 43, 3) := by decide +kernel
theorem dL_law_261 : decode cL_law 261 = .ok (.aload_n 2, 1) := by decide +kernel
theorem dL_law_262 : decode cL_law 262 = .ok (.aload_n 0, 1) := by decide +kernel
theorem dL_law_263 : decode cL_law 263 = .ok (.iload_n 3, 1) := by decide +kernel
theorem dL_law_264 : decode cL_law 264 = .ok (.iconst 1, 1) := by decide +kernel
theorem dL_law_265 : decode cL_law 265 = .ok (.iadd, 1) := by decide +kernel
theorem dL_law_266 : decode cL_law 266 = .ok (.iaload, 1) := by decide +kernel
theorem dL_law_267 : decode cL_law 267 = .ok (.invokevirtual 47, 3) := by decide +kernel
theorem dL_law_270 : decode cL_law 270 = .ok (.if_icmp .eq 128, 3) := by decide +kernel
theorem dL_law_273 : decode cL_law 273 = .ok (.iconst 0, 1) := by decide +kernel
theorem dL_law_274 : decode cL_law 274 = .ok (.ireturn, 1) := by decide +kernel
theorem dL_law_275 : decode cL_law 275 = .ok (.aload_n 1, 1) := by decide +kernel
theorem dL_law_276 : decode cL_law 276 = .ok (.aload_n 0, 1) := by decide +kernel
theorem dL_law_277 : decode cL_law 277 = .ok (.iload_n 3, 1) := by decide +kernel
theorem dL_law_278 : decode cL_law 278 = .ok (.iconst 1, 1) := by decide +kernel
theorem dL_law_279 : decode cL_law 279 = .ok (.iadd, 1) := by decide +kernel
theorem dL_law_280 : decode cL_law 280 = .ok (.iaload, 1) := by decide +kernel
theorem dL_law_281 : decode cL_law 281 = .ok (.aload_n 0, 1) := by decide +kernel
theorem dL_law_282 : decode cL_law 282 = .ok (.iload_n 3, 1) := by decide +kernel
theorem dL_law_283 : decode cL_law 283 = .ok (.iconst 2, 1) := by decide +kernel
theorem dL_law_284 : decode cL_law 284 = .ok (.iadd, 1) := by decide +kernel
theorem dL_law_285 : decode cL_law 285 = .ok (.iaload, 1) := by decide +kernel
theorem dL_law_286 : decode cL_law 286 = .ok (.aload_n 0, 1) := by decide +kernel
theorem dL_law_287 : decode cL_law 287 = .ok (.iload_n 3, 1) := by decide +kernel
theorem dL_law_288 : decode cL_law 288 = .ok (.iconst 3, 1) := by decide +kernel
theorem dL_law_289 : decode cL_law 289 = .ok (.iadd, 1) := by decide +kernel
theorem dL_law_290 : decode cL_law 290 = .ok (.iaload, 1) := by decide +kernel
theorem dL_law_291 : decode cL_law 291 = .ok (.invokevirtual 48, 3) := by decide +kernel
theorem dL_law_294 : decode cL_law 294 = .ok (.aload_n 2, 1) := by decide +kernel
theorem dL_law_295 : decode cL_law 295 = .ok (.aload_n 0, 1) := by decide +kernel
theorem dL_law_296 : decode cL_law 296 = .ok (.iload_n 3, 1) := by decide +kernel
theorem dL_law_297 : decode cL_law 297 = .ok (.iconst 1, 1) := by decide +kernel
theorem dL_law_298 : decode cL_law 298 = .ok (.iadd, 1) := by decide +kernel
theorem dL_law_299 : decode cL_law 299 = .ok (.iaload, 1) := by decide +kernel
theorem dL_law_300 : decode cL_law 300 = .ok (.aload_n 0, 1) := by decide +kernel
theorem dL_law_301 : decode cL_law 301 = .ok (.iload_n 3, 1) := by decide +kernel
theorem dL_law_302 : decode cL_law 302 = .ok (.iconst 2, 1) := by decide +kernel
theorem dL_law_303 : decode cL_law 303 = .ok (.iadd, 1) := by decide +kernel
theorem dL_law_304 : decode cL_law 304 = .ok (.iaload, 1) := by decide +kernel
theorem dL_law_305 : decode cL_law 305 = .ok (.aload_n 0, 1) := by decide +kernel
theorem dL_law_306 : decode cL_law 306 = .ok (.iload_n 3, 1) := by decide +kernel
theorem dL_law_307 : decode cL_law 307 = .ok (.iconst 3, 1) := by decide +kernel
theorem dL_law_308 : decode cL_law 308 = .ok (.iadd, 1) := by decide +kernel
theorem dL_law_309 : decode cL_law 309 = .ok (.iaload, 1) := by decide +kernel
theorem dL_law_310 : decode cL_law 310 = .ok (.invokevirtual 52, 3) := by decide +kernel
theorem dL_law_313 : decode cL_law 313 = .ok (.lcmp, 1) := by decide +kernel
theorem dL_law_314 : decode cL_law 314 = .ok (.ifCond .eq 84, 3) := by decide +kernel
theorem dL_law_317 : decode cL_law 317 = .ok (.iconst 0, 1) := by decide +kernel
theorem dL_law_318 : decode cL_law 318 = .ok (.ireturn, 1) := by decide +kernel
theorem dL_law_319 : decode cL_law 319 = .ok (.aload_n 1, 1) := by decide +kernel
theorem dL_law_320 : decode cL_law 320 = .ok (.aload_n 0, 1) := by decide +kernel
theorem dL_law_321 : decode cL_law 321 = .ok (.iload_n 3, 1) := by decide +kernel
theorem dL_law_322 : decode cL_law 322 = .ok (.iconst 1, 1) := by decide +kernel
theorem dL_law_323 : decode cL_law 323 = .ok (.iadd, 1) := by decide +kernel
theorem dL_law_324 : decode cL_law 324 = .ok (.iaload, 1) := by decide +kernel
theorem dL_law_325 : decode cL_law 325 = .ok (.aload_n 0, 1) := by decide +kernel
theorem dL_law_326 : decode cL_law 326 = .ok (.iload_n 3, 1) := by decide +kernel
theorem dL_law_327 : decode cL_law 327 = .ok (.iconst 2, 1) := by decide +kernel
theorem dL_law_328 : decode cL_law 328 = .ok (.iadd, 1) := by decide +kernel
theorem dL_law_329 : decode cL_law 329 = .ok (.iaload, 1) := by decide +kernel
theorem dL_law_330 : decode cL_law 330 = .ok (.invokevirtual 53, 3) := by decide +kernel
theorem dL_law_333 : decode cL_law 333 = .ok (.aload_n 2, 1) := by decide +kernel
theorem dL_law_334 : decode cL_law 334 = .ok (.aload_n 0, 1) := by decide +kernel
theorem dL_law_335 : decode cL_law 335 = .ok (.iload_n 3, 1) := by decide +kernel
theorem dL_law_336 : decode cL_law 336 = .ok (.iconst 1, 1) := by decide +kernel
theorem dL_law_337 : decode cL_law 337 = .ok (.iadd, 1) := by decide +kernel
theorem dL_law_338 : decode cL_law 338 = .ok (.iaload, 1) := by decide +kernel
theorem dL_law_339 : decode cL_law 339 = .ok (.aload_n 0, 1) := by decide +kernel
theorem dL_law_340 : decode cL_law 340 = .ok (.iload_n 3, 1) := by decide +kernel
theorem dL_law_341 : decode cL_law 341 = .ok (.iconst 2, 1) := by decide +kernel
theorem dL_law_342 : decode cL_law 342 = .ok (.iadd, 1) := by decide +kernel
theorem dL_law_343 : decode cL_law 343 = .ok (.iaload, 1) := by decide +kernel
theorem dL_law_344 : decode cL_law 344 = .ok (.invokevirtual 57, 3) := by decide +kernel
theorem dL_law_347 : decode cL_law 347 = .ok (.if_icmp .eq 51, 3) := by decide +kernel
theorem dL_law_350 : decode cL_law 350 = .ok (.iconst 0, 1) := by decide +kernel
theorem dL_law_351 : decode cL_law 351 = .ok (.ireturn, 1) := by decide +kernel
theorem dL_law_352 : decode cL_law 352 = .ok (.aload_n 1, 1) := by decide +kernel
theorem dL_law_353 : decode cL_law 353 = .ok (.aload_n 0, 1) := by decide +kernel
theorem dL_law_354 : decode cL_law 354 = .ok (.iload_n 3, 1) := by decide +kernel
theorem dL_law_355 : decode cL_law 355 = .ok (.iconst 1, 1) := by decide +kernel
theorem dL_law_356 : decode cL_law 356 = .ok (.iadd, 1) := by decide +kernel
theorem dL_law_357 : decode cL_law 357 = .ok (.iaload, 1) := by decide +kernel
theorem dL_law_358 : decode cL_law 358 = .ok (.invokevirtual 58, 3) := by decide +kernel
theorem dL_law_361 : decode cL_law 361 = .ok (.aload_n 2, 1) := by decide +kernel
theorem dL_law_362 : decode cL_law 362 = .ok (.aload_n 0, 1) := by decide +kernel
theorem dL_law_363 : decode cL_law 363 = .ok (.iload_n 3, 1) := by decide +kernel
theorem dL_law_364 : decode cL_law 364 = .ok (.iconst 1, 1) := by decide +kernel
theorem dL_law_365 : decode cL_law 365 = .ok (.iadd, 1) := by decide +kernel
theorem dL_law_366 : decode cL_law 366 = .ok (.iaload, 1) := by decide +kernel
theorem dL_law_367 : decode cL_law 367 = .ok (.invokevirtual 61, 3) := by decide +kernel
theorem dL_law_370 : decode cL_law 370 = .ok (.if_icmp .eq 28, 3) := by decide +kernel
theorem dL_law_373 : decode cL_law 373 = .ok (.iconst 0, 1) := by decide +kernel
theorem dL_law_374 : decode cL_law 374 = .ok (.ireturn, 1) := by decide +kernel
theorem dL_law_375 : decode cL_law 375 = .ok (.aload_n 1, 1) := by decide +kernel
theorem dL_law_376 : decode cL_law 376 = .ok (.aload_n 0, 1) := by decide +kernel
theorem dL_law_377 : decode cL_law 377 = .ok (.iload_n 3, 1) := by decide +kernel
theorem dL_law_378 : decode cL_law 378 = .ok (.iconst 1, 1) := by decide +kernel
theorem dL_law_379 : decode cL_law 379 = .ok (.iadd, 1) := by decide +kernel
theorem dL_law_380 : decode cL_law 380 = .ok (.iaload, 1) := by decide +kernel
theorem dL_law_381 : decode cL_law 381 = .ok (.invokevirtual 62, 3) := by decide +kernel
theorem dL_law_384 : decode cL_law 384 = .ok (.aload_n 2, 1) := by decide +kernel
theorem dL_law_385 : decode cL_law 385 = .ok (.aload_n 0, 1) := by decide +kernel
theorem dL_law_386 : decode cL_law 386 = .ok (.iload_n 3, 1) := by decide +kernel
theorem dL_law_387 : decode cL_law 387 = .ok (.iconst 1, 1) := by decide +kernel
theorem dL_law_388 : decode cL_law 388 = .ok (.iadd, 1) := by decide +kernel
theorem dL_law_389 : decode cL_law 389 = .ok (.iaload, 1) := by decide +kernel
theorem dL_law_390 : decode cL_law 390 = .ok (.invokevirtual 65, 3) := by decide +kernel
theorem dL_law_393 : decode cL_law 393 = .ok (.if_icmp .eq 5, 3) := by decide +kernel
theorem dL_law_396 : decode cL_law 396 = .ok (.iconst 0, 1) := by decide +kernel
theorem dL_law_397 : decode cL_law 397 = .ok (.ireturn, 1) := by decide +kernel
theorem dL_law_398 : decode cL_law 398 = .ok (.iinc 3 4, 3) := by decide +kernel
theorem dL_law_401 : decode cL_law 401 = .ok (.goto (-383), 3) := by decide +kernel
theorem dL_law_404 : decode cL_law 404 = .ok (.iconst 1, 1) := by decide +kernel
theorem dL_law_405 : decode cL_law 405 = .ok (.ireturn, 1) := by decide +kernel
def wsM_c0 : List Cond := [.initialized RX2, .instanceMethod objectInit, .code objectInit ⟨#[0xb1]⟩ 1 none, .arrayClass .byte, .arrayClass .int, .instanceMethod yX2_init]
set_option maxRecDepth 20000 in
theorem gMt_0 : GoodIn lw_tbl wsM_c0 := goodIn_r _ [29, 36, 37, 57, 58, 225] (by decide +kernel) (by decide +kernel)
def wsM_c1 : List Cond := [.code yX2_init cX2_init 1 none]
set_option maxRecDepth 20000 in
theorem gMt_1 : GoodIn lw_tbl wsM_c1 := fun w hw => by
  have e : w = .code yX2_init cX2_init 1 none := List.mem_singleton.mp hw
  subst e
  exact ⟨List.mem_of_getElem? (i := 226) (by rfl), Or.inl rfl⟩
def wsM_c2 : List Cond := [.methodLink RX2 45 objectInit, .methodLink RX2 67 yX2_primes, .instanceMethod yX2_primes]
set_option maxRecDepth 20000 in
theorem gMt_2 : GoodIn lw_tbl wsM_c2 := goodIn_r _ [227, 228, 230] (by decide +kernel) (by decide +kernel)
def wsM_c3 : List Cond := [.code yX2_primes cX2_primes 5 none]
set_option maxRecDepth 20000 in
theorem gMt_3 : GoodIn lw_tbl wsM_c3 := fun w hw => by
  have e : w = .code yX2_primes cX2_primes 5 none := List.mem_singleton.mp hw
  subst e
  exact ⟨List.mem_of_getElem? (i := 231) (by rfl), Or.inl rfl⟩
def wsM_c4 : List Cond := [.methodLink RX2 7 yX2_root, .static yX2_root]
set_option maxRecDepth 20000 in
theorem gMt_4 : GoodIn lw_tbl wsM_c4 := goodIn_r _ [232, 233] (by decide +kernel) (by decide +kernel)
def wsM_c5 : List Cond := [.code yX2_root cX2_root 7 (some .int)]
set_option maxRecDepth 20000 in
theorem gMt_5 : GoodIn lw_tbl wsM_c5 := fun w hw => by
  have e : w = .code yX2_root cX2_root 7 (some .int) := List.mem_singleton.mp hw
  subst e
  exact ⟨List.mem_of_getElem? (i := 234) (by rfl), Or.inl rfl⟩
def wsM_c6 : List Cond := [.methodLink RX2 14 yX2_isAbove, .static yX2_isAbove]
set_option maxRecDepth 20000 in
theorem gMt_6 : GoodIn lw_tbl wsM_c6 := goodIn_r _ [235, 236] (by decide +kernel) (by decide +kernel)
def wsM_c7 : List Cond := [.code yX2_isAbove cX2_isAbove 30 (some .boolean)]
set_option maxRecDepth 20000 in
theorem gMt_7 : GoodIn lw_tbl wsM_c7 := fun w hw => by
  have e : w = .code yX2_isAbove cX2_isAbove 30 (some .boolean) := List.mem_singleton.mp hw
  subst e
  exact ⟨List.mem_of_getElem? (i := 237) (by rfl), Or.inl rfl⟩
def wsM_c8 : List Cond := [.constantLong RX2 18 (4294967295), .constantLong RX2 20 (2), .fieldLink RX2 22 "RootDeskModel" "hashed" "[I", .fieldLink RX2 25 "RootDeskModel" "hashSize" "I", .fieldLink RX2 33 "RootDeskModel" "sums" "[I", .fieldLink RX2 39 "RootDeskModel" "schedule" "[I", .fieldLink RX2 11 "RootDeskModel" "rounds" "[I", .fieldLink RX2 1 "RootDeskModel" "begins" "[I"]
set_option maxRecDepth 20000 in
theorem gMt_8 : GoodIn lw_tbl wsM_c8 := goodIn_r _ [238, 239, 240, 241, 242, 243, 244, 245] (by decide +kernel) (by decide +kernel)
def wsM_c9 : List Cond := [.fieldLink RX2 51 "RootDeskModel" "tape" "[I", .fieldLink RX2 70 "RootDeskModel" "taped" "I", .fieldLink RX2 83 "RootDeskModel" "leaves" "I", .fieldLink RX2 54 "RootDeskModel" "bytes" "[I", .fieldLink RX2 57 "RootDeskModel" "sizes" "[I", .fieldLink RX2 60 "RootDeskModel" "level" "[J", .fieldLink RX2 96 "RootDeskModel" "many" "I", .fieldLink RX2 99 "RootDeskModel" "levels" "I"]
set_option maxRecDepth 20000 in
theorem gMt_9 : GoodIn lw_tbl wsM_c9 := goodIn_r _ [246, 247, 248, 249, 250, 251, 252, 253] (by decide +kernel) (by decide +kernel)
def wsM_c10 : List Cond := [.fieldLink RX2 112 "RootDeskModel" "climbed" "I", .fieldLink RX2 64 "RootDeskModel" "mine" "[J", .arrayClass .long, .instanceMethod yX2_put, .selects RX2 yX2_put yX2_put]
set_option maxRecDepth 20000 in
theorem gMt_10 : GoodIn lw_tbl wsM_c10 := goodIn_r _ [254, 255, 289, 291, 292] (by decide +kernel) (by decide +kernel)
def wsM_c11 : List Cond := [.code yX2_put cX2_put 5 (some .boolean)]
set_option maxRecDepth 20000 in
theorem gMt_11 : GoodIn lw_tbl wsM_c11 := fun w hw => by
  have e : w = .code yX2_put cX2_put 5 (some .boolean) := List.mem_singleton.mp hw
  subst e
  exact ⟨List.mem_of_getElem? (i := 293) (by rfl), Or.inl rfl⟩
def wsM_c12 : List Cond := [.instanceMethod yX2_hash, .selects RX2 yX2_hash yX2_hash]
set_option maxRecDepth 20000 in
theorem gMt_12 : GoodIn lw_tbl wsM_c12 := goodIn_r _ [295, 296] (by decide +kernel) (by decide +kernel)
def wsM_c13 : List Cond := [.code yX2_hash cX2_hash 2 (some .long)]
set_option maxRecDepth 20000 in
theorem gMt_13 : GoodIn lw_tbl wsM_c13 := fun w hw => by
  have e : w = .code yX2_hash cX2_hash 2 (some .long) := List.mem_singleton.mp hw
  subst e
  exact ⟨List.mem_of_getElem? (i := 297) (by rfl), Or.inl rfl⟩
def wsM_c14 : List Cond := [.methodLink RX2 76 yX2_hashTape, .instanceMethod yX2_hashTape]
set_option maxRecDepth 20000 in
theorem gMt_14 : GoodIn lw_tbl wsM_c14 := goodIn_r _ [298, 300] (by decide +kernel) (by decide +kernel)
def wsM_c15 : List Cond := [.code yX2_hashTape cX2_hashTape 2 none]
set_option maxRecDepth 20000 in
theorem gMt_15 : GoodIn lw_tbl wsM_c15 := fun w hw => by
  have e : w = .code yX2_hashTape cX2_hashTape 2 none := List.mem_singleton.mp hw
  subst e
  exact ⟨List.mem_of_getElem? (i := 301) (by rfl), Or.inl rfl⟩
def wsM_c16 : List Cond := [.methodLink RX2 29 yX2_hashByte, .instanceMethod yX2_hashByte]
set_option maxRecDepth 20000 in
theorem gMt_16 : GoodIn lw_tbl wsM_c16 := goodIn_r _ [302, 304] (by decide +kernel) (by decide +kernel)
def wsM_c17 : List Cond := [.code yX2_hashByte cX2_hashByte 2 none]
set_option maxRecDepth 20000 in
theorem gMt_17 : GoodIn lw_tbl wsM_c17 := fun w hw => by
  have e : w = .code yX2_hashByte cX2_hashByte 2 none := List.mem_singleton.mp hw
  subst e
  exact ⟨List.mem_of_getElem? (i := 305) (by rfl), Or.inl rfl⟩
def wsM_c18 : List Cond := [.methodLink RX2 73 yX2_digest, .instanceMethod yX2_digest]
set_option maxRecDepth 20000 in
theorem gMt_18 : GoodIn lw_tbl wsM_c18 := goodIn_r _ [306, 308] (by decide +kernel) (by decide +kernel)
def wsM_c19 : List Cond := [.code yX2_digest cX2_digest 3 none]
set_option maxRecDepth 20000 in
theorem gMt_19 : GoodIn lw_tbl wsM_c19 := fun w hw => by
  have e : w = .code yX2_digest cX2_digest 3 none := List.mem_singleton.mp hw
  subst e
  exact ⟨List.mem_of_getElem? (i := 309) (by rfl), Or.inl rfl⟩
def wsM_c20 : List Cond := [.methodLink RX2 36 yX2_compress, .instanceMethod yX2_compress]
set_option maxRecDepth 20000 in
theorem gMt_20 : GoodIn lw_tbl wsM_c20 := goodIn_r _ [310, 312] (by decide +kernel) (by decide +kernel)
def wsM_c21 : List Cond := [.code yX2_compress cX2_compress 13 none]
set_option maxRecDepth 20000 in
theorem gMt_21 : GoodIn lw_tbl wsM_c21 := fun w hw => by
  have e : w = .code yX2_compress cX2_compress 13 none := List.mem_singleton.mp hw
  subst e
  exact ⟨List.mem_of_getElem? (i := 313) (by rfl), Or.inl rfl⟩
def wsM_c22 : List Cond := [.methodLink RX2 42 yX2_turn, .static yX2_turn]
set_option maxRecDepth 20000 in
theorem gMt_22 : GoodIn lw_tbl wsM_c22 := goodIn_r _ [314, 315] (by decide +kernel) (by decide +kernel)
def wsM_c23 : List Cond := [.code yX2_turn cX2_turn 2 (some .int)]
set_option maxRecDepth 20000 in
theorem gMt_23 : GoodIn lw_tbl wsM_c23 := fun w hw => by
  have e : w = .code yX2_turn cX2_turn 2 (some .int) := List.mem_singleton.mp hw
  subst e
  exact ⟨List.mem_of_getElem? (i := 316) (by rfl), Or.inl rfl⟩
def wsM_c24 : List Cond := [.methodLink RX2 79 yX2_sum, .instanceMethod yX2_sum]
set_option maxRecDepth 20000 in
theorem gMt_24 : GoodIn lw_tbl wsM_c24 := goodIn_r _ [317, 319] (by decide +kernel) (by decide +kernel)
def wsM_c25 : List Cond := [.code yX2_sum cX2_sum 2 (some .long)]
set_option maxRecDepth 20000 in
theorem gMt_25 : GoodIn lw_tbl wsM_c25 := fun w hw => by
  have e : w = .code yX2_sum cX2_sum 2 (some .long) := List.mem_singleton.mp hw
  subst e
  exact ⟨List.mem_of_getElem? (i := 320) (by rfl), Or.inl rfl⟩
def wsM_c26 : List Cond := [.instanceMethod yX2_add, .selects RX2 yX2_add yX2_add]
set_option maxRecDepth 20000 in
theorem gMt_26 : GoodIn lw_tbl wsM_c26 := goodIn_r _ [322, 323] (by decide +kernel) (by decide +kernel)
def wsM_c27 : List Cond := [.code yX2_add cX2_add 1 (some .int)]
set_option maxRecDepth 20000 in
theorem gMt_27 : GoodIn lw_tbl wsM_c27 := fun w hw => by
  have e : w = .code yX2_add cX2_add 1 (some .int) := List.mem_singleton.mp hw
  subst e
  exact ⟨List.mem_of_getElem? (i := 324) (by rfl), Or.inl rfl⟩
def wsM_c28 : List Cond := [.methodLink RX2 86 yX2_lay, .instanceMethod yX2_lay]
set_option maxRecDepth 20000 in
theorem gMt_28 : GoodIn lw_tbl wsM_c28 := goodIn_r _ [325, 327] (by decide +kernel) (by decide +kernel)
def wsM_c29 : List Cond := [.code yX2_lay cX2_lay 3 none]
set_option maxRecDepth 20000 in
theorem gMt_29 : GoodIn lw_tbl wsM_c29 := fun w hw => by
  have e : w = .code yX2_lay cX2_lay 3 none := List.mem_singleton.mp hw
  subst e
  exact ⟨List.mem_of_getElem? (i := 328) (by rfl), Or.inl rfl⟩
def wsM_c30 : List Cond := [.instanceMethod yX2_change, .selects RX2 yX2_change yX2_change]
set_option maxRecDepth 20000 in
theorem gMt_30 : GoodIn lw_tbl wsM_c30 := goodIn_r _ [330, 331] (by decide +kernel) (by decide +kernel)
def wsM_c31 : List Cond := [.code yX2_change cX2_change 2 (some .boolean)]
set_option maxRecDepth 20000 in
theorem gMt_31 : GoodIn lw_tbl wsM_c31 := fun w hw => by
  have e : w = .code yX2_change cX2_change 2 (some .boolean) := List.mem_singleton.mp hw
  subst e
  exact ⟨List.mem_of_getElem? (i := 332) (by rfl), Or.inl rfl⟩
def wsM_c32 : List Cond := [.methodLink RX2 89 yX2_isLeaf, .instanceMethod yX2_isLeaf]
set_option maxRecDepth 20000 in
theorem gMt_32 : GoodIn lw_tbl wsM_c32 := goodIn_r _ [333, 335] (by decide +kernel) (by decide +kernel)
def wsM_c33 : List Cond := [.code yX2_isLeaf cX2_isLeaf 2 (some .boolean)]
set_option maxRecDepth 20000 in
theorem gMt_33 : GoodIn lw_tbl wsM_c33 := fun w hw => by
  have e : w = .code yX2_isLeaf cX2_isLeaf 2 (some .boolean) := List.mem_singleton.mp hw
  subst e
  exact ⟨List.mem_of_getElem? (i := 336) (by rfl), Or.inl rfl⟩
def wsM_c34 : List Cond := [.instanceMethod yX2_drop, .selects RX2 yX2_drop yX2_drop]
set_option maxRecDepth 20000 in
theorem gMt_34 : GoodIn lw_tbl wsM_c34 := goodIn_r _ [338, 339] (by decide +kernel) (by decide +kernel)
def wsM_c35 : List Cond := [.code yX2_drop cX2_drop 1 (some .int)]
set_option maxRecDepth 20000 in
theorem gMt_35 : GoodIn lw_tbl wsM_c35 := fun w hw => by
  have e : w = .code yX2_drop cX2_drop 1 (some .int) := List.mem_singleton.mp hw
  subst e
  exact ⟨List.mem_of_getElem? (i := 340) (by rfl), Or.inl rfl⟩
def wsM_c36 : List Cond := [.instanceMethod yX2_root2, .selects RX2 yX2_root2 yX2_root2]
set_option maxRecDepth 20000 in
theorem gMt_36 : GoodIn lw_tbl wsM_c36 := goodIn_r _ [342, 343] (by decide +kernel) (by decide +kernel)
def wsM_c37 : List Cond := [.code yX2_root2 cX2_root2 2 (some .long)]
set_option maxRecDepth 20000 in
theorem gMt_37 : GoodIn lw_tbl wsM_c37 := fun w hw => by
  have e : w = .code yX2_root2 cX2_root2 2 (some .long) := List.mem_singleton.mp hw
  subst e
  exact ⟨List.mem_of_getElem? (i := 344) (by rfl), Or.inl rfl⟩
def wsM_c38 : List Cond := [.methodLink RX2 106 yX2_lowest, .instanceMethod yX2_lowest]
set_option maxRecDepth 20000 in
theorem gMt_38 : GoodIn lw_tbl wsM_c38 := goodIn_r _ [345, 347] (by decide +kernel) (by decide +kernel)
def wsM_c39 : List Cond := [.code yX2_lowest cX2_lowest 3 none]
set_option maxRecDepth 20000 in
theorem gMt_39 : GoodIn lw_tbl wsM_c39 := fun w hw => by
  have e : w = .code yX2_lowest cX2_lowest 3 none := List.mem_singleton.mp hw
  subst e
  exact ⟨List.mem_of_getElem? (i := 348) (by rfl), Or.inl rfl⟩
def wsM_c40 : List Cond := [.methodLink RX2 93 yX2_keep, .instanceMethod yX2_keep]
set_option maxRecDepth 20000 in
theorem gMt_40 : GoodIn lw_tbl wsM_c40 := goodIn_r _ [349, 351] (by decide +kernel) (by decide +kernel)
def wsM_c41 : List Cond := [.code yX2_keep cX2_keep 3 none]
set_option maxRecDepth 20000 in
theorem gMt_41 : GoodIn lw_tbl wsM_c41 := fun w hw => by
  have e : w = .code yX2_keep cX2_keep 3 none := List.mem_singleton.mp hw
  subst e
  exact ⟨List.mem_of_getElem? (i := 352) (by rfl), Or.inl rfl⟩
def wsM_c42 : List Cond := [.methodLink RX2 109 yX2_up, .instanceMethod yX2_up]
set_option maxRecDepth 20000 in
theorem gMt_42 : GoodIn lw_tbl wsM_c42 := goodIn_r _ [353, 355] (by decide +kernel) (by decide +kernel)
def wsM_c43 : List Cond := [.code yX2_up cX2_up 3 none]
set_option maxRecDepth 20000 in
theorem gMt_43 : GoodIn lw_tbl wsM_c43 := fun w hw => by
  have e : w = .code yX2_up cX2_up 3 none := List.mem_singleton.mp hw
  subst e
  exact ⟨List.mem_of_getElem? (i := 356) (by rfl), Or.inl rfl⟩
def wsM_c44 : List Cond := [.methodLink RX2 102 yX2_byteIn, .static yX2_byteIn]
set_option maxRecDepth 20000 in
theorem gMt_44 : GoodIn lw_tbl wsM_c44 := goodIn_r _ [357, 358] (by decide +kernel) (by decide +kernel)
def wsM_c45 : List Cond := [.code yX2_byteIn cX2_byteIn 3 (some .int)]
set_option maxRecDepth 20000 in
theorem gMt_45 : GoodIn lw_tbl wsM_c45 := fun w hw => by
  have e : w = .code yX2_byteIn cX2_byteIn 3 (some .int) := List.mem_singleton.mp hw
  subst e
  exact ⟨List.mem_of_getElem? (i := 359) (by rfl), Or.inl rfl⟩
def wsM_c46 : List Cond := [.instanceMethod yX2_way, .selects RX2 yX2_way yX2_way]
set_option maxRecDepth 20000 in
theorem gMt_46 : GoodIn lw_tbl wsM_c46 := goodIn_r _ [361, 362] (by decide +kernel) (by decide +kernel)
def wsM_c47 : List Cond := [.code yX2_way cX2_way 2 (some .int)]
set_option maxRecDepth 20000 in
theorem gMt_47 : GoodIn lw_tbl wsM_c47 := fun w hw => by
  have e : w = .code yX2_way cX2_way 2 (some .int) := List.mem_singleton.mp hw
  subst e
  exact ⟨List.mem_of_getElem? (i := 363) (by rfl), Or.inl rfl⟩
def wsM_c48 : List Cond := [.methodLink RX2 115 yX2_climb, .instanceMethod yX2_climb]
set_option maxRecDepth 20000 in
theorem gMt_48 : GoodIn lw_tbl wsM_c48 := goodIn_r _ [364, 366] (by decide +kernel) (by decide +kernel)
def wsM_c49 : List Cond := [.code yX2_climb cX2_climb 5 (some .int)]
set_option maxRecDepth 20000 in
theorem gMt_49 : GoodIn lw_tbl wsM_c49 := fun w hw => by
  have e : w = .code yX2_climb cX2_climb 5 (some .int) := List.mem_singleton.mp hw
  subst e
  exact ⟨List.mem_of_getElem? (i := 367) (by rfl), Or.inl rfl⟩
def wsM_c50 : List Cond := [.instanceMethod yX2_beside, .selects RX2 yX2_beside yX2_beside]
set_option maxRecDepth 20000 in
theorem gMt_50 : GoodIn lw_tbl wsM_c50 := goodIn_r _ [369, 370] (by decide +kernel) (by decide +kernel)
def wsM_c51 : List Cond := [.code yX2_beside cX2_beside 5 (some .long)]
set_option maxRecDepth 20000 in
theorem gMt_51 : GoodIn lw_tbl wsM_c51 := fun w hw => by
  have e : w = .code yX2_beside cX2_beside 5 (some .long) := List.mem_singleton.mp hw
  subst e
  exact ⟨List.mem_of_getElem? (i := 371) (by rfl), Or.inl rfl⟩
def wsM_c52 : List Cond := [.instanceMethod yX2_isLeft, .selects RX2 yX2_isLeft yX2_isLeft]
set_option maxRecDepth 20000 in
theorem gMt_52 : GoodIn lw_tbl wsM_c52 := goodIn_r _ [373, 374] (by decide +kernel) (by decide +kernel)
def wsM_c53 : List Cond := [.code yX2_isLeft cX2_isLeft 4 (some .int)]
set_option maxRecDepth 20000 in
theorem gMt_53 : GoodIn lw_tbl wsM_c53 := fun w hw => by
  have e : w = .code yX2_isLeft cX2_isLeft 4 (some .int) := List.mem_singleton.mp hw
  subst e
  exact ⟨List.mem_of_getElem? (i := 375) (by rfl), Or.inl rfl⟩
def wsM_c54 : List Cond := [.instanceMethod yX2_proves, .selects RX2 yX2_proves yX2_proves]
set_option maxRecDepth 20000 in
theorem gMt_54 : GoodIn lw_tbl wsM_c54 := goodIn_r _ [377, 378] (by decide +kernel) (by decide +kernel)
def wsM_c55 : List Cond := [.code yX2_proves cX2_proves 8 (some .int)]
set_option maxRecDepth 20000 in
theorem gMt_55 : GoodIn lw_tbl wsM_c55 := fun w hw => by
  have e : w = .code yX2_proves cX2_proves 8 (some .int) := List.mem_singleton.mp hw
  subst e
  exact ⟨List.mem_of_getElem? (i := 379) (by rfl), Or.inl rfl⟩
def wsM_c56 : List Cond := [.methodLink RX2 118 yX2_way, .methodLink RX2 122 yX2_root2, .instanceMethod yX2_count, .selects RX2 yX2_count yX2_count]
set_option maxRecDepth 20000 in
theorem gMt_56 : GoodIn lw_tbl wsM_c56 := goodIn_r _ [380, 381, 383, 384] (by decide +kernel) (by decide +kernel)
def wsM_c57 : List Cond := [.code yX2_count cX2_count 4 (some .int)]
set_option maxRecDepth 20000 in
theorem gMt_57 : GoodIn lw_tbl wsM_c57 := fun w hw => by
  have e : w = .code yX2_count cX2_count 4 (some .int) := List.mem_singleton.mp hw
  subst e
  exact ⟨List.mem_of_getElem? (i := 385) (by rfl), Or.inl rfl⟩
def wsM_c58 : List Cond := [.selects RX2 yX2_primes yX2_primes, .selects RX2 yX2_hashTape yX2_hashTape, .selects RX2 yX2_hashByte yX2_hashByte, .selects RX2 yX2_digest yX2_digest, .selects RX2 yX2_compress yX2_compress, .selects RX2 yX2_sum yX2_sum, .selects RX2 yX2_lay yX2_lay, .selects RX2 yX2_isLeaf yX2_isLeaf]
set_option maxRecDepth 20000 in
theorem gMt_58 : GoodIn lw_tbl wsM_c58 := goodIn_r _ [14, 15, 16, 17, 18, 19, 20, 21] (by decide +kernel) (by decide +kernel)
def wsM_c59 : List Cond := [.selects RX2 yX2_lowest yX2_lowest, .selects RX2 yX2_keep yX2_keep, .selects RX2 yX2_up yX2_up, .selects RX2 yX2_climb yX2_climb]
set_option maxRecDepth 20000 in
theorem gMt_59 : GoodIn lw_tbl wsM_c59 := goodIn_r _ [22, 23, 24, 25] (by decide +kernel) (by decide +kernel)
set_option maxRecDepth 20000 in
theorem wsM_eq : wsM = wsM_c0 ++ (wsM_c1 ++ (wsM_c2 ++ (wsM_c3 ++ (wsM_c4 ++ (wsM_c5 ++ (wsM_c6 ++ (wsM_c7 ++ (wsM_c8 ++ (wsM_c9 ++ (wsM_c10 ++ (wsM_c11 ++ (wsM_c12 ++ (wsM_c13 ++ (wsM_c14 ++ (wsM_c15 ++ (wsM_c16 ++ (wsM_c17 ++ (wsM_c18 ++ (wsM_c19 ++ (wsM_c20 ++ (wsM_c21 ++ (wsM_c22 ++ (wsM_c23 ++ (wsM_c24 ++ (wsM_c25 ++ (wsM_c26 ++ (wsM_c27 ++ (wsM_c28 ++ (wsM_c29 ++ (wsM_c30 ++ (wsM_c31 ++ (wsM_c32 ++ (wsM_c33 ++ (wsM_c34 ++ (wsM_c35 ++ (wsM_c36 ++ (wsM_c37 ++ (wsM_c38 ++ (wsM_c39 ++ (wsM_c40 ++ (wsM_c41 ++ (wsM_c42 ++ (wsM_c43 ++ (wsM_c44 ++ (wsM_c45 ++ (wsM_c46 ++ (wsM_c47 ++ (wsM_c48 ++ (wsM_c49 ++ (wsM_c50 ++ (wsM_c51 ++ (wsM_c52 ++ (wsM_c53 ++ (wsM_c54 ++ (wsM_c55 ++ (wsM_c56 ++ (wsM_c57 ++ (wsM_c58 ++ (wsM_c59))))))))))))))))))))))))))))))))))))))))))))))))))))))))))) := rfl
set_option maxRecDepth 20000 in
theorem gM_all : GoodIn lw_tbl wsM := by
  rw [wsM_eq]
  exact goodIn_app gMt_0 (goodIn_app gMt_1 (goodIn_app gMt_2 (goodIn_app gMt_3 (goodIn_app gMt_4 (goodIn_app gMt_5 (goodIn_app gMt_6 (goodIn_app gMt_7 (goodIn_app gMt_8 (goodIn_app gMt_9 (goodIn_app gMt_10 (goodIn_app gMt_11 (goodIn_app gMt_12 (goodIn_app gMt_13 (goodIn_app gMt_14 (goodIn_app gMt_15 (goodIn_app gMt_16 (goodIn_app gMt_17 (goodIn_app gMt_18 (goodIn_app gMt_19 (goodIn_app gMt_20 (goodIn_app gMt_21 (goodIn_app gMt_22 (goodIn_app gMt_23 (goodIn_app gMt_24 (goodIn_app gMt_25 (goodIn_app gMt_26 (goodIn_app gMt_27 (goodIn_app gMt_28 (goodIn_app gMt_29 (goodIn_app gMt_30 (goodIn_app gMt_31 (goodIn_app gMt_32 (goodIn_app gMt_33 (goodIn_app gMt_34 (goodIn_app gMt_35 (goodIn_app gMt_36 (goodIn_app gMt_37 (goodIn_app gMt_38 (goodIn_app gMt_39 (goodIn_app gMt_40 (goodIn_app gMt_41 (goodIn_app gMt_42 (goodIn_app gMt_43 (goodIn_app gMt_44 (goodIn_app gMt_45 (goodIn_app gMt_46 (goodIn_app gMt_47 (goodIn_app gMt_48 (goodIn_app gMt_49 (goodIn_app gMt_50 (goodIn_app gMt_51 (goodIn_app gMt_52 (goodIn_app gMt_53 (goodIn_app gMt_54 (goodIn_app gMt_55 (goodIn_app gMt_56 (goodIn_app gMt_57 (goodIn_app gMt_58 (gMt_59)))))))))))))))))))))))))))))))))))))))))))))))))))))))))))
set_option maxRecDepth 20000 in
theorem gX20 : GoodIn lw_tbl wsX20 := goodIn_r _ [256, 258, 260, 262, 264, 266, 268, 270, 272, 274, 276, 278, 280, 282, 284, 286] (by decide +kernel) (by decide +kernel)
theorem gMMt : GoodIn lw_tbl wsMM := goodIn_app gM_all gX20
theorem gLM {c1 : Cond} (h : c1 ∈ wsM) : GoodIn lw_tbl (c1 :: wsMM) := fun w hw => gMMt w ((List.mem_cons.mp hw).elim (fun e => e ▸ List.mem_append_left _ h) (fun e => e))
theorem inX1t : ∀ w ∈ wsX10, w ∈ lw_tbl := fun w h => ((goodIn_r _ [66, 68, 70, 72, 74, 76, 78] (by decide +kernel) (by decide +kernel) : GoodIn lw_tbl wsX10) w h).1
theorem inX0t : ∀ w ∈ wsX00, w ∈ lw_tbl := fun w h => ((goodIn_r _ [48, 50, 52, 54] (by decide +kernel) (by decide +kernel) : GoodIn lw_tbl wsX00) w h).1
theorem inX2t : ∀ w ∈ wsX20, w ∈ lw_tbl := fun w h => (gMMt w (List.mem_append_right _ h)).1
theorem gL2_init : GoodIn lw_tbl wsX2_init := gLM (List.mem_of_getElem? (i := 6) rfl)
set_option maxRecDepth 20000 in
theorem gL2_put : GoodIn lw_tbl (wsV RL 19 RX2 yX2_put wsX2_put) := goodIn_app (goodIn_r _ [290, 291, 292, 29] (by decide +kernel) (by decide +kernel)) (gLM (List.mem_of_getElem? (i := 38) rfl))
set_option maxRecDepth 20000 in
theorem gL2_hash : GoodIn lw_tbl (wsV RL 24 RX2 yX2_hash wsX2_hash) := goodIn_app (goodIn_r _ [294, 295, 296, 29] (by decide +kernel) (by decide +kernel)) (gLM (List.mem_of_getElem? (i := 41) rfl))
set_option maxRecDepth 20000 in
theorem gL2_add : GoodIn lw_tbl (wsV RL 29 RX2 yX2_add wsX2_add) := goodIn_app (goodIn_r _ [321, 322, 323, 29] (by decide +kernel) (by decide +kernel)) (gLM (List.mem_of_getElem? (i := 62) rfl))
set_option maxRecDepth 20000 in
theorem gL2_change : GoodIn lw_tbl (wsV RL 34 RX2 yX2_change wsX2_change) := goodIn_app (goodIn_r _ [329, 330, 331, 29] (by decide +kernel) (by decide +kernel)) (gLM (List.mem_of_getElem? (i := 68) rfl))
set_option maxRecDepth 20000 in
theorem gL2_drop : GoodIn lw_tbl (wsV RL 38 RX2 yX2_drop wsX2_drop) := goodIn_app (goodIn_r _ [337, 338, 339, 29] (by decide +kernel) (by decide +kernel)) (gLM (List.mem_of_getElem? (i := 74) rfl))
set_option maxRecDepth 20000 in
theorem gL2_root2 : GoodIn lw_tbl (wsV RL 42 RX2 yX2_root2 wsX2_root2) := goodIn_app (goodIn_r _ [341, 342, 343, 29] (by decide +kernel) (by decide +kernel)) (gLM (List.mem_of_getElem? (i := 77) rfl))
set_option maxRecDepth 20000 in
theorem gL2_way : GoodIn lw_tbl (wsV RL 47 RX2 yX2_way wsX2_way) := goodIn_app (goodIn_r _ [360, 361, 362, 29] (by decide +kernel) (by decide +kernel)) (gLM (List.mem_of_getElem? (i := 92) rfl))
set_option maxRecDepth 20000 in
theorem gL2_beside : GoodIn lw_tbl (wsV RL 52 RX2 yX2_beside wsX2_beside) := goodIn_app (goodIn_r _ [368, 369, 370, 29] (by decide +kernel) (by decide +kernel)) (gLM (List.mem_of_getElem? (i := 98) rfl))
set_option maxRecDepth 20000 in
theorem gL2_isLeft : GoodIn lw_tbl (wsV RL 57 RX2 yX2_isLeft wsX2_isLeft) := goodIn_app (goodIn_r _ [372, 373, 374, 29] (by decide +kernel) (by decide +kernel)) (gLM (List.mem_of_getElem? (i := 101) rfl))
set_option maxRecDepth 20000 in
theorem gL2_proves : GoodIn lw_tbl (wsV RL 61 RX2 yX2_proves wsX2_proves) := goodIn_app (goodIn_r _ [376, 377, 378, 29] (by decide +kernel) (by decide +kernel)) (gLM (List.mem_of_getElem? (i := 104) rfl))
set_option maxRecDepth 20000 in
theorem gL2_count : GoodIn lw_tbl (wsV RL 65 RX2 yX2_count wsX2_count) := goodIn_app (goodIn_r _ [382, 383, 384, 29] (by decide +kernel) (by decide +kernel)) (gLM (List.mem_of_getElem? (i := 109) rfl))

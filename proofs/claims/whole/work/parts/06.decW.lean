theorem d_W_law_0 : decode code 0 = .ok (.new 7, 3) := by decide +kernel
theorem d_W_law_3 : decode code 3 = .ok (.dup, 1) := by decide +kernel
theorem d_W_law_4 : decode code 4 = .ok (.invokespecial 9, 3) := by decide +kernel
theorem d_W_law_7 : decode code 7 = .ok (.astore_n 1, 1) := by decide +kernel
theorem d_W_law_8 : decode code 8 = .ok (.new 10, 3) := by decide +kernel
theorem d_W_law_11 : decode code 11 = .ok (.dup, 1) := by decide +kernel
theorem d_W_law_12 : decode code 12 = .ok (.invokespecial 12, 3) := by decide +kernel
theorem d_W_law_15 : decode code 15 = .ok (.astore_n 2, 1) := by decide +kernel
theorem d_W_law_16 : decode code 16 = .ok (.iconst 0, 1) := by decide +kernel
theorem d_W_law_17 : decode code 17 = .ok (.istore_n 3, 1) := by decide +kernel
theorem d_W_law_18 : decode code 18 = .ok (.iload_n 3, 1) := by decide +kernel
theorem d_W_law_19 : decode code 19 = .ok (.aload_n 0, 1) := by decide +kernel
theorem d_W_law_20 : decode code 20 = .ok (.arraylength, 1) := by decide +kernel
theorem d_W_law_21 : decode code 21 = .ok (.bipush 8, 2) := by decide +kernel
theorem d_W_law_23 : decode code 23 = .ok (.isub, 1) := by decide +kernel
theorem d_W_law_24 : decode code 24 = .ok (.if_icmp .gt 643, 3) := by decide +kernel
theorem d_W_law_27 : decode code 27 = .ok (.aload_n 0, 1) := by decide +kernel
theorem d_W_law_28 : decode code 28 = .ok (.iload_n 3, 1) := by decide +kernel
theorem d_W_law_29 : decode code 29 = .ok (.iaload, 1) := by decide +kernel
theorem d_W_law_30 : decode code 30 = .ok (.bipush 15, 2) := by decide +kernel
theorem d_W_law_32 : decode code 32 = .ok (.iand, 1) := by decide +kernel
theorem d_W_law_33 : decode code 33 = .ok (.tableswitch 628 0 13 #[71, 218, 241, 254, 267, 340, 373, 406, 429, 453, 486, 509, 592, 615], 71) := by decide +kernel
theorem d_W_law_104 : decode code 104 = .ok (.aload_n 1, 1) := by decide +kernel
theorem d_W_law_105 : decode code 105 = .ok (.aload_n 0, 1) := by decide +kernel
theorem d_W_law_106 : decode code 106 = .ok (.iload_n 3, 1) := by decide +kernel
theorem d_W_law_107 : decode code 107 = .ok (.iconst 1, 1) := by decide +kernel
theorem d_W_law_108 : decode code 108 = .ok (.iadd, 1) := by decide +kernel
theorem d_W_law_109 : decode code 109 = .ok (.iaload, 1) := by decide +kernel
theorem d_W_law_110 : decode code 110 = .ok (.aload_n 0, 1) := by decide +kernel
theorem d_W_law_111 : decode code 111 = .ok (.iload_n 3, 1) := by decide +kernel
theorem d_W_law_112 : decode code 112 = .ok (.iconst 2, 1) := by decide +kernel
theorem d_W_law_113 : decode code 113 = .ok (.iadd, 1) := by decide +kernel
theorem d_W_law_114 : decode code 114 = .ok (.iaload, 1) := by decide +kernel
theorem d_W_law_115 : decode code 115 = .ok (.i2l, 1) := by decide +kernel
theorem d_W_law_116 : decode code 116 = .ok (.bipush 32, 2) := by decide +kernel
theorem d_W_law_118 : decode code 118 = .ok (.lshl, 1) := by decide +kernel
theorem d_W_law_119 : decode code 119 = .ok (.aload_n 0, 1) := by decide +kernel
theorem d_W_law_120 : decode code 120 = .ok (.iload_n 3, 1) := by decide +kernel
theorem d_W_law_121 : decode code 121 = .ok (.iconst 3, 1) := by decide +kernel
theorem d_W_law_122 : decode code 122 = .ok (.iadd, 1) := by decide +kernel
theorem d_W_law_123 : decode code 123 = .ok (.iaload, 1) := by decide +kernel
theorem d_W_law_124 : decode code 124 = .ok (.i2l, 1) := by decide +kernel
theorem d_W_law_125 : decode code 125 = .ok (.ldc2_w 13, 3) := by decide +kernel
theorem d_W_law_128 : decode code 128 = .ok (.land, 1) := by decide +kernel
theorem d_W_law_129 : decode code 129 = .ok (.lor, 1) := by decide +kernel
theorem d_W_law_130 : decode code 130 = .ok (.aload_n 0, 1) := by decide +kernel
theorem d_W_law_131 : decode code 131 = .ok (.iload_n 3, 1) := by decide +kernel
theorem d_W_law_132 : decode code 132 = .ok (.iconst 4, 1) := by decide +kernel
theorem d_W_law_133 : decode code 133 = .ok (.iadd, 1) := by decide +kernel
theorem d_W_law_134 : decode code 134 = .ok (.iaload, 1) := by decide +kernel
theorem d_W_law_135 : decode code 135 = .ok (.i2l, 1) := by decide +kernel
theorem d_W_law_136 : decode code 136 = .ok (.bipush 32, 2) := by decide +kernel
theorem d_W_law_138 : decode code 138 = .ok (.lshl, 1) := by decide +kernel
theorem d_W_law_139 : decode code 139 = .ok (.aload_n 0, 1) := by decide +kernel
theorem d_W_law_140 : decode code 140 = .ok (.iload_n 3, 1) := by decide +kernel
theorem d_W_law_141 : decode code 141 = .ok (.iconst 5, 1) := by decide +kernel
theorem d_W_law_142 : decode code 142 = .ok (.iadd, 1) := by decide +kernel
theorem d_W_law_143 : decode code 143 = .ok (.iaload, 1) := by decide +kernel
theorem d_W_law_144 : decode code 144 = .ok (.i2l, 1) := by decide +kernel
theorem d_W_law_145 : decode code 145 = .ok (.ldc2_w 13, 3) := by decide +kernel
theorem d_W_law_148 : decode code 148 = .ok (.land, 1) := by decide +kernel
theorem d_W_law_149 : decode code 149 = .ok (.lor, 1) := by decide +kernel
theorem d_W_law_150 : decode code 150 = .ok (.aload_n 0, 1) := by decide +kernel
theorem d_W_law_151 : decode code 151 = .ok (.iload_n 3, 1) := by decide +kernel
theorem d_W_law_152 : decode code 152 = .ok (.bipush 6, 2) := by decide +kernel
theorem d_W_law_154 : decode code 154 = .ok (.iadd, 1) := by decide +kernel
theorem d_W_law_155 : decode code 155 = .ok (.iaload, 1) := by decide +kernel
theorem d_W_law_156 : decode code 156 = .ok (.i2l, 1) := by decide +kernel
theorem d_W_law_157 : decode code 157 = .ok (.bipush 32, 2) := by decide +kernel
theorem d_W_law_159 : decode code 159 = .ok (.lshl, 1) := by decide +kernel
theorem d_W_law_160 : decode code 160 = .ok (.aload_n 0, 1) := by decide +kernel
theorem d_W_law_161 : decode code 161 = .ok (.iload_n 3, 1) := by decide +kernel
theorem d_W_law_162 : decode code 162 = .ok (.bipush 7, 2) := by decide +kernel
theorem d_W_law_164 : decode code 164 = .ok (.iadd, 1) := by decide +kernel
theorem d_W_law_165 : decode code 165 = .ok (.iaload, 1) := by decide +kernel
theorem d_W_law_166 : decode code 166 = .ok (.i2l, 1) := by decide +kernel
theorem d_W_law_167 : decode code 167 = .ok (.ldc2_w 13, 3) := by decide +kernel
theorem d_W_law_170 : decode code 170 = .ok (.land, 1) := by decide +kernel
theorem d_W_law_171 : decode code 171 = .ok (.lor, 1) := by decide +kernel
theorem d_W_law_172 : decode code 172 = .ok (.invokevirtual 15, 3) := by decide +kernel
theorem d_W_law_175 : decode code 175 = .ok (.aload_n 2, 1) := by decide +kernel
theorem d_W_law_176 : decode code 176 = .ok (.aload_n 0, 1) := by decide +kernel
theorem d_W_law_177 : decode code 177 = .ok (.iload_n 3, 1) := by decide +kernel
theorem d_W_law_178 : decode code 178 = .ok (.iconst 1, 1) := by decide +kernel
theorem d_W_law_179 : decode code 179 = .ok (.iadd, 1) := by decide +kernel
theorem d_W_law_180 : decode code 180 = .ok (.iaload, 1) := by decide +kernel
theorem d_W_law_181 : decode code 181 = .ok (.aload_n 0, 1) := by decide +kernel
theorem d_W_law_182 : decode code 182 = .ok (.iload_n 3, 1) := by decide +kernel
theorem d_W_law_183 : decode code 183 = .ok (.iconst 2, 1) := by decide +kernel
theorem d_W_law_184 : decode code 184 = .ok (.iadd, 1) := by decide +kernel
theorem d_W_law_185 : decode code 185 = .ok (.iaload, 1) := by decide +kernel
theorem d_W_law_186 : decode code 186 = .ok (.i2l, 1) := by decide +kernel
theorem d_W_law_187 : decode code 187 = .ok (.bipush 32, 2) := by decide +kernel
theorem d_W_law_189 : decode code 189 = .ok (.lshl, 1) := by decide +kernel
theorem d_W_law_190 : decode code 190 = .ok (.aload_n 0, 1) := by decide +kernel
theorem d_W_law_191 : decode code 191 = .ok (.iload_n 3, 1) := by decide +kernel
theorem d_W_law_192 : decode code 192 = .ok (.iconst 3, 1) := by decide +kernel
theorem d_W_law_193 : decode code 193 = .ok (.iadd, 1) := by decide +kernel
theorem d_W_law_194 : decode code 194 = .ok (.iaload, 1) := by decide +kernel
theorem d_W_law_195 : decode code 195 = .ok (.i2l, 1) := by decide +kernel
theorem d_W_law_196 : decode code 196 = .ok (.ldc2_w 13, 3) := by decide +kernel
theorem d_W_law_199 : decode code 199 = .ok (.land, 1) := by decide +kernel
theorem d_W_law_200 : decode code 200 = .ok (.lor, 1) := by decide +kernel
theorem d_W_law_201 : decode code 201 = .ok (.aload_n 0, 1) := by decide +kernel
theorem d_W_law_202 : decode code 202 = .ok (.iload_n 3, 1) := by decide +kernel
theorem d_W_law_203 : decode code 203 = .ok (.iconst 4, 1) := by decide +kernel
theorem d_W_law_204 : decode code 204 = .ok (.iadd, 1) := by decide +kernel
theorem d_W_law_205 : decode code 205 = .ok (.iaload, 1) := by decide +kernel
theorem d_W_law_206 : decode code 206 = .ok (.i2l, 1) := by decide +kernel
theorem d_W_law_207 : decode code 207 = .ok (.bipush 32, 2) := by decide +kernel
theorem d_W_law_209 : decode code 209 = .ok (.lshl, 1) := by decide +kernel
theorem d_W_law_210 : decode code 210 = .ok (.aload_n 0, 1) := by decide +kernel
theorem d_W_law_211 : decode code 211 = .ok (.iload_n 3, 1) := by decide +kernel
theorem d_W_law_212 : decode code 212 = .ok (.iconst 5, 1) := by decide +kernel
theorem d_W_law_213 : decode code 213 = .ok (.iadd, 1) := by decide +kernel
theorem d_W_law_214 : decode code 214 = .ok (.iaload, 1) := by decide +kernel
theorem d_W_law_215 : decode code 215 = .ok (.i2l, 1) := by decide +kernel
theorem d_W_law_216 : decode code 216 = .ok (.ldc2_w 13, 3) := by decide +kernel
theorem d_W_law_219 : decode code 219 = .ok (.land, 1) := by decide +kernel
theorem d_W_law_220 : decode code 220 = .ok (.lor, 1) := by decide +kernel
theorem d_W_law_221 : decode code 221 = .ok (.aload_n 0, 1) := by decide +kernel
theorem d_W_law_222 : decode code 222 = .ok (.iload_n 3, 1) := by decide +kernel
theorem d_W_law_223 : decode code 223 = .ok (.bipush 6, 2) := by decide +kernel
theorem d_W_law_225 : decode code 225 = .ok (.iadd, 1) := by decide +kernel
theorem d_W_law_226 : decode code 226 = .ok (.iaload, 1) := by decide +kernel
theorem d_W_law_227 : decode code 227 = .ok (.i2l, 1) := by decide +kernel
theorem d_W_law_228 : decode code 228 = .ok (.bipush 32, 2) := by decide +kernel
theorem d_W_law_230 : decode code 230 = .ok (.lshl, 1) := by decide +kernel
theorem d_W_law_231 : decode code 231 = .ok (.aload_n 0, 1) := by decide +kernel
theorem d_W_law_232 : decode code 232 = .ok (.iload_n 3, 1) := by decide +kernel
theorem d_W_law_233 : decode code 233 = .ok (.bipush 7, 2) := by decide +kernel
theorem d_W_law_235 : decode code 235 = .ok (.iadd, 1) := by decide +kernel
theorem d_W_law_236 : decode code 236 = .ok (.iaload, 1) := by decide +kernel
theorem d_W_law_237 : decode code 237 = .ok (.i2l, 1) := by decide +kernel
theorem d_W_law_238 : decode code 238 = .ok (.ldc2_w 13, 3) := by decide +kernel
theorem d_W_law_241 : decode code 241 = .ok (.land, 1) := by decide +kernel
theorem d_W_law_242 : decode code 242 = .ok (.lor, 1) := by decide +kernel
theorem d_W_law_243 : decode code 243 = .ok (.invokevirtual 19, 3) := by decide +kernel
theorem d_W_law_246 : decode code 246 = .ok (.if_icmp .eq 415, 3) := by decide +kernel
theorem d_W_law_249 : decode code 249 = .ok (.iconst 0, 1) := by decide +kernel
theorem d_W_law_250 : decode code 250 = .ok (.ireturn, 1) := by decide +kernel
theorem d_W_law_251 : decode code 251 = .ok (.aload_n 1, 1) := by decide +kernel
theorem d_W_law_252 : decode code 252 = .ok (.aload_n 0, 1) := by decide +kernel
theorem d_W_law_253 : decode code 253 = .ok (.iload_n 3, 1) := by decide +kernel
theorem d_W_law_254 : decode code 254 = .ok (.iconst 1, 1) := by decide +kernel
theorem d_W_law_255 : decode code 255 = .ok (.iadd, 1) := by decide +kernel
theorem d_W_law_256 : decode code 256 = .ok (.iaload, 1) := by decide +kernel
theorem d_W_law_257 : decode code 257 = .ok (.invokevirtual 20, 3) := by decide +kernel
theorem d_W_law_260 : decode code 260 = .ok (.aload_n 2, 1) := by decide +kernel
theorem d_W_law_261 : decode code 261 = .ok (.aload_n 0, 1) := by decide +kernel
theorem d_W_law_262 : decode code 262 = .ok (.iload_n 3, 1) := by decide +kernel
theorem d_W_law_263 : decode code 263 = .ok (.iconst 1, 1) := by decide +kernel
theorem d_W_law_264 : decode code 264 = .ok (.iadd, 1) := by decide +kernel
theorem d_W_law_265 : decode code 265 = .ok (.iaload, 1) := by decide +kernel
theorem d_W_law_266 : decode code 266 = .ok (.invokevirtual 24, 3) := by decide +kernel
theorem d_W_law_269 : decode code 269 = .ok (.if_icmp .eq 392, 3) := by decide +kernel
theorem d_W_law_272 : decode code 272 = .ok (.iconst 0, 1) := by decide +kernel
theorem d_W_law_273 : decode code 273 = .ok (.ireturn, 1) := by decide +kernel
theorem d_W_law_274 : decode code 274 = .ok (.aload_n 1, 1) := by decide +kernel
theorem d_W_law_275 : decode code 275 = .ok (.invokevirtual 25, 3) := by decide +kernel
theorem d_W_law_278 : decode code 278 = .ok (.aload_n 2, 1) := by decide +kernel
theorem d_W_law_279 : decode code 279 = .ok (.invokevirtual 29, 3) := by decide +kernel
theorem d_W_law_282 : decode code 282 = .ok (.if_icmp .eq 379, 3) := by decide +kernel
theorem d_W_law_285 : decode code 285 = .ok (.iconst 0, 1) := by decide +kernel
theorem d_W_law_286 : decode code 286 = .ok (.ireturn, 1) := by decide +kernel
theorem d_W_law_287 : decode code 287 = .ok (.aload_n 1, 1) := by decide +kernel
theorem d_W_law_288 : decode code 288 = .ok (.invokevirtual 30, 3) := by decide +kernel
theorem d_W_law_291 : decode code 291 = .ok (.aload_n 2, 1) := by decide +kernel
theorem d_W_law_292 : decode code 292 = .ok (.invokevirtual 33, 3) := by decide +kernel
theorem d_W_law_295 : decode code 295 = .ok (.if_icmp .eq 366, 3) := by decide +kernel
theorem d_W_law_298 : decode code 298 = .ok (.iconst 0, 1) := by decide +kernel
theorem d_W_law_299 : decode code 299 = .ok (.ireturn, 1) := by decide +kernel
theorem d_W_law_300 : decode code 300 = .ok (.aload_n 1, 1) := by decide +kernel
theorem d_W_law_301 : decode code 301 = .ok (.aload_n 0, 1) := by decide +kernel
theorem d_W_law_302 : decode code 302 = .ok (.iload_n 3, 1) := by decide +kernel
theorem d_W_law_303 : decode code 303 = .ok (.iconst 1, 1) := by decide +kernel
theorem d_W_law_304 : decode code 304 = .ok (.iadd, 1) := by decide +kernel
theorem d_W_law_305 : decode code 305 = .ok (.iaload, 1) := by decide +kernel
theorem d_W_law_306 : decode code 306 = .ok (.aload_n 0, 1) := by decide +kernel
theorem d_W_law_307 : decode code 307 = .ok (.iload_n 3, 1) := by decide +kernel
theorem d_W_law_308 : decode code 308 = .ok (.iconst 2, 1) := by decide +kernel
theorem d_W_law_309 : decode code 309 = .ok (.iadd, 1) := by decide +kernel
theorem d_W_law_310 : decode code 310 = .ok (.iaload, 1) := by decide +kernel
theorem d_W_law_311 : decode code 311 = .ok (.aload_n 0, 1) := by decide +kernel
theorem d_W_law_312 : decode code 312 = .ok (.iload_n 3, 1) := by decide +kernel
theorem d_W_law_313 : decode code 313 = .ok (.iconst 3, 1) := by decide +kernel
theorem d_W_law_314 : decode code 314 = .ok (.iadd, 1) := by decide +kernel
theorem d_W_law_315 : decode code 315 = .ok (.iaload, 1) := by decide +kernel
theorem d_W_law_316 : decode code 316 = .ok (.i2l, 1) := by decide +kernel
theorem d_W_law_317 : decode code 317 = .ok (.bipush 32, 2) := by decide +kernel
theorem d_W_law_319 : decode code 319 = .ok (.lshl, 1) := by decide +kernel
theorem d_W_law_320 : decode code 320 = .ok (.aload_n 0, 1) := by decide +kernel
theorem d_W_law_321 : decode code 321 = .ok (.iload_n 3, 1) := by decide +kernel
theorem d_W_law_322 : decode code 322 = .ok (.iconst 4, 1) := by decide +kernel
theorem d_W_law_323 : decode code 323 = .ok (.iadd, 1) := by decide +kernel
theorem d_W_law_324 : decode code 324 = .ok (.iaload, 1) := by decide +kernel
theorem d_W_law_325 : decode code 325 = .ok (.i2l, 1) := by decide +kernel
theorem d_W_law_326 : decode code 326 = .ok (.ldc2_w 13, 3) := by decide +kernel
theorem d_W_law_329 : decode code 329 = .ok (.land, 1) := by decide +kernel
theorem d_W_law_330 : decode code 330 = .ok (.lor, 1) := by decide +kernel
theorem d_W_law_331 : decode code 331 = .ok (.invokevirtual 34, 3) := by decide +kernel
theorem d_W_law_334 : decode code 334 = .ok (.aload_n 2, 1) := by decide +kernel
theorem d_W_law_335 : decode code 335 = .ok (.aload_n 0, 1) := by decide +kernel
theorem d_W_law_336 : decode code 336 = .ok (.iload_n 3, 1) := by decide +kernel
theorem d_W_law_337 : decode code 337 = .ok (.iconst 1, 1) := by decide +kernel
theorem d_W_law_338 : decode code 338 = .ok (.iadd, 1) := by decide +kernel
theorem d_W_law_339 : decode code 339 = .ok (.iaload, 1) := by decide +kernel
theorem d_W_law_340 : decode code 340 = .ok (.aload_n 0, 1) := by decide +kernel
theorem d_W_law_341 : decode code 341 = .ok (.iload_n 3, 1) := by decide +kernel
theorem d_W_law_342 : decode code 342 = .ok (.iconst 2, 1) := by decide +kernel
theorem d_W_law_343 : decode code 343 = .ok (.iadd, 1) := by decide +kernel
theorem d_W_law_344 : decode code 344 = .ok (.iaload, 1) := by decide +kernel
theorem d_W_law_345 : decode code 345 = .ok (.aload_n 0, 1) := by decide +kernel
theorem d_W_law_346 : decode code 346 = .ok (.iload_n 3, 1) := by decide +kernel
theorem d_W_law_347 : decode code 347 = .ok (.iconst 3, 1) := by decide +kernel
theorem d_W_law_348 : decode code 348 = .ok (.iadd, 1) := by decide +kernel
theorem d_W_law_349 : decode code 349 = .ok (.iaload, 1) := by decide +kernel
theorem d_W_law_350 : decode code 350 = .ok (.i2l, 1) := by decide +kernel
theorem d_W_law_351 : decode code 351 = .ok (.bipush 32, 2) := by decide +kernel
theorem d_W_law_353 : decode code 353 = .ok (.lshl, 1) := by decide +kernel
theorem d_W_law_354 : decode code 354 = .ok (.aload_n 0, 1) := by decide +kernel
theorem d_W_law_355 : decode code 355 = .ok (.iload_n 3, 1) := by decide +kernel
theorem d_W_law_356 : decode code 356 = .ok (.iconst 4, 1) := by decide +kernel
theorem d_W_law_357 : decode code 357 = .ok (.iadd, 1) := by decide +kernel
theorem d_W_law_358 : decode code 358 = .ok (.iaload, 1) := by decide +kernel
theorem d_W_law_359 : decode code 359 = .ok (.i2l, 1) := by decide +kernel
theorem d_W_law_360 : decode code 360 = .ok (.ldc2_w 13, 3) := by decide +kernel
theorem d_W_law_363 : decode code 363 = .ok (.land, 1) := by decide +kernel
theorem d_W_law_364 : decode code 364 = .ok (.lor, 1) := by decide +kernel
theorem d_W_law_365 : decode code 365 = .ok (.invokevirtual 38, 3) := by decide +kernel
theorem d_W_law_368 : decode code 368 = .ok (.if_icmp .eq 293, 3) := by decide +kernel
theorem d_W_law_371 : decode code 371 = .ok (.iconst 0, 1) := by decide +kernel
theorem d_W_law_372 : decode code 372 = .ok (.ireturn, 1) := by decide +kernel
theorem d_W_law_373 : decode code 373 = .ok (.aload_n 1, 1) := by decide +kernel
theorem d_W_law_374 : decode code 374 = .ok (.aload_n 0, 1) := by decide +kernel
theorem d_W_law_375 : decode code 375 = .ok (.iload_n 3, 1) := by decide +kernel
theorem d_W_law_376 : decode code 376 = .ok (.iconst 1, 1) := by decide +kernel
theorem d_W_law_377 : decode code 377 = .ok (.iadd, 1) := by decide +kernel
theorem d_W_law_378 : decode code 378 = .ok (.iaload, 1) := by decide +kernel
theorem d_W_law_379 : decode code 379 = .ok (.aload_n 0, 1) := by decide +kernel
theorem d_W_law_380 : decode code 380 = .ok (.iload_n 3, 1) := by decide +kernel
theorem d_W_law_381 : decode code 381 = .ok (.iconst 2, 1) := by decide +kernel
theorem d_W_law_382 : decode code 382 = .ok (.iadd, 1) := by decide +kernel
theorem d_W_law_383 : decode code 383 = .ok (.iaload, 1) := by decide +kernel
theorem d_W_law_384 : decode code 384 = .ok (.invokevirtual 39, 3) := by decide +kernel
theorem d_W_law_387 : decode code 387 = .ok (.aload_n 2, 1) := by decide +kernel
theorem d_W_law_388 : decode code 388 = .ok (.aload_n 0, 1) := by decide +kernel
theorem d_W_law_389 : decode code 389 = .ok (.iload_n 3, 1) := by decide +kernel
theorem d_W_law_390 : decode code 390 = .ok (.iconst 1, 1) := by decide +kernel
theorem d_W_law_391 : decode code 391 = .ok (.iadd, 1) := by decide +kernel
theorem d_W_law_392 : decode code 392 = .ok (.iaload, 1) := by decide +kernel
theorem d_W_law_393 : decode code 393 = .ok (.aload_n 0, 1) := by decide +kernel
theorem d_W_law_394 : decode code 394 = .ok (.iload_n 3, 1) := by decide +kernel
theorem d_W_law_395 : decode code 395 = .ok (.iconst 2, 1) := by decide +kernel
theorem d_W_law_396 : decode code 396 = .ok (.iadd, 1) := by decide +kernel
theorem d_W_law_397 : decode code 397 = .ok (.iaload, 1) := by decide +kernel
theorem d_W_law_398 : decode code 398 = .ok (.invokevirtual 43, 3) := by decide +kernel
theorem d_W_law_401 : decode code 401 = .ok (.if_icmp .eq 260, 3) := by decide +kernel
theorem d_W_law_404 : decode code 404 = .ok (.iconst 0, 1) := by decide +kernel
theorem d_W_law_405 : decode code 405 = .ok (.ireturn, 1) := by decide +kernel
theorem d_W_law_406 : decode code 406 = .ok (.aload_n 1, 1) := by decide +kernel
theorem d_W_law_407 : decode code 407 = .ok (.aload_n 0, 1) := by decide +kernel
theorem d_W_law_408 : decode code 408 = .ok (.iload_n 3, 1) := by decide +kernel
theorem d_W_law_409 : decode code 409 = .ok (.iconst 1, 1) := by decide +kernel
theorem d_W_law_410 : decode code 410 = .ok (.iadd, 1) := by decide +kernel
theorem d_W_law_411 : decode code 411 = .ok (.iaload, 1) := by decide +kernel
theorem d_W_law_412 : decode code 412 = .ok (.aload_n 0, 1) := by decide +kernel
theorem d_W_law_413 : decode code 413 = .ok (.iload_n 3, 1) := by decide +kernel
theorem d_W_law_414 : decode code 414 = .ok (.iconst 2, 1) := by decide +kernel
theorem d_W_law_415 : decode code 415 = .ok (.iadd, 1) := by decide +kernel
theorem d_W_law_416 : decode code 416 = .ok (.iaload, 1) := by decide +kernel
theorem d_W_law_417 : decode code 417 = .ok (.invokevirtual 44, 3) := by decide +kernel
theorem d_W_law_420 : decode code 420 = .ok (.aload_n 2, 1) := by decide +kernel
theorem d_W_law_421 : decode code 421 = .ok (.aload_n 0, 1) := by decide +kernel
theorem d_W_law_422 : decode code 422 = .ok (.iload_n 3, 1) := by decide +kernel
theorem d_W_law_423 : decode code 423 = .ok (.iconst 1, 1) := by decide +kernel
theorem d_W_law_424 : decode code 424 = .ok (.iadd, 1) := by decide +kernel
theorem d_W_law_425 : decode code 425 = .ok (.iaload, 1) := by decide +kernel
theorem d_W_law_426 : decode code 426 = .ok (.aload_n 0, 1) := by decide +kernel
theorem d_W_law_427 : decode code 427 = .ok (.iload_n 3, 1) := by decide +kernel
theorem d_W_law_428 : decode code 428 = .ok (.iconst 2, 1) := by decide +kernel
theorem d_W_law_429 : decode code 429 = .ok (.iadd, 1) := by decide +kernel
theorem d_W_law_430 : decode code 430 = .ok (.iaload, 1) := by decide +kernel
theorem d_W_law_431 : decode code 431 = .ok (.invokevirtual 47, 3) := by decide +kernel
theorem d_W_law_434 : decode code 434 = .ok (.if_icmp .eq 227, 3) := by decide +kernel
theorem d_W_law_437 : decode code 437 = .ok (.iconst 0, 1) := by decide +kernel
theorem d_W_law_438 : decode code 438 = .ok (.ireturn, 1) := by decide +kernel
theorem d_W_law_439 : decode code 439 = .ok (.aload_n 1, 1) := by decide +kernel
theorem d_W_law_440 : decode code 440 = .ok (.aload_n 0, 1) := by decide +kernel
theorem d_W_law_441 : decode code 441 = .ok (.iload_n 3, 1) := by decide +kernel
theorem d_W_law_442 : decode code 442 = .ok (.iconst 1, 1) := by decide +kernel
theorem d_W_law_443 : decode code 443 = .ok (.iadd, 1) := by decide +kernel
theorem d_W_law_444 : decode code 444 = .ok (.iaload, 1) := by decide +kernel
theorem d_W_law_445 : decode code 445 = .ok (.invokevirtual 48, 3) := by decide +kernel
theorem d_W_law_448 : decode code 448 = .ok (.aload_n 2, 1) := by decide +kernel
theorem d_W_law_449 : decode code 449 = .ok (.aload_n 0, 1) := by decide +kernel
theorem d_W_law_450 : decode code 450 = .ok (.iload_n 3, 1) := by decide +kernel
theorem d_W_law_451 : decode code 451 = .ok (.iconst 1, 1) := by decide +kernel
theorem d_W_law_452 : decode code 452 = .ok (.iadd, 1) := by decide +kernel
theorem d_W_law_453 : decode code 453 = .ok (.iaload, 1) := by decide +kernel
theorem d_W_law_454 : decode code 454 = .ok (.invokevirtual 51, 3) := by decide +kernel
theorem d_W_law_457 : decode code 457 = .ok (.if_icmp .eq 204, 3) := by decide +kernel
theorem d_W_law_460 : decode code 460 = .ok (.iconst 0, 1) := by decide +kernel
theorem d_W_law_461 : decode code 461 = .ok (.ireturn, 1) := by decide +kernel
theorem d_W_law_462 : decode code 462 = .ok (.aload_n 1, 1) := by decide +kernel
theorem d_W_law_463 : decode code 463 = .ok (.aload_n 0, 1) := by decide +kernel
theorem d_W_law_464 : decode code 464 = .ok (.iload_n 3, 1) := by decide +kernel
theorem d_W_law_465 : decode code 465 = .ok (.iconst 1, 1) := by decide +kernel
theorem d_W_law_466 : decode code 466 = .ok (.iadd, 1) := by decide +kernel
theorem d_W_law_467 : decode code 467 = .ok (.iaload, 1) := by decide +kernel
theorem d_W_law_468 : decode code 468 = .ok (.invokevirtual 52, 3) := by decide +kernel
theorem d_W_law_471 : decode code 471 = .ok (.aload_n 2, 1) := by decide +kernel
theorem d_W_law_472 : decode code 472 = .ok (.aload_n 0, 1) := by decide +kernel
theorem d_W_law_473 : decode code 473 = .ok (.iload_n 3, 1) := by decide +kernel
theorem d_W_law_474 : decode code 474 = .ok (.iconst 1, 1) := by decide +kernel
theorem d_W_law_475 : decode code 475 = .ok (.iadd, 1) := by decide +kernel
theorem d_W_law_476 : decode code 476 = .ok (.iaload, 1) := by decide +kernel
theorem d_W_law_477 : decode code 477 = .ok (.invokevirtual 56, 3) := by decide +kernel
theorem d_W_law_480 : decode code 480 = .ok (.lcmp, 1) := by decide +kernel
theorem d_W_law_481 : decode code 481 = .ok (.ifCond .eq 180, 3) := by decide +kernel
theorem d_W_law_484 : decode code 484 = .ok (.iconst 0, 1) := by decide +kernel
theorem d_W_law_485 : decode code 485 = .ok (.ireturn, 1) := by decide +kernel
theorem d_W_law_486 : decode code 486 = .ok (.aload_n 1, 1) := by decide +kernel
theorem d_W_law_487 : decode code 487 = .ok (.aload_n 0, 1) := by decide +kernel
theorem d_W_law_488 : decode code 488 = .ok (.iload_n 3, 1) := by decide +kernel
theorem d_W_law_489 : decode code 489 = .ok (.iconst 1, 1) := by decide +kernel
theorem d_W_law_490 : decode code 490 = .ok (.iadd, 1) := by decide +kernel
theorem d_W_law_491 : decode code 491 = .ok (.iaload, 1) := by decide +kernel
theorem d_W_law_492 : decode code 492 = .ok (.aload_n 0, 1) := by decide +kernel
theorem d_W_law_493 : decode code 493 = .ok (.iload_n 3, 1) := by decide +kernel
theorem d_W_law_494 : decode code 494 = .ok (.iconst 2, 1) := by decide +kernel
theorem d_W_law_495 : decode code 495 = .ok (.iadd, 1) := by decide +kernel
theorem d_W_law_496 : decode code 496 = .ok (.iaload, 1) := by decide +kernel
theorem d_W_law_497 : decode code 497 = .ok (.invokevirtual 57, 3) := by decide +kernel
theorem d_W_law_500 : decode code 500 = .ok (.aload_n 2, 1) := by decide +kernel
theorem d_W_law_501 : decode code 501 = .ok (.aload_n 0, 1) := by decide +kernel
theorem d_W_law_502 : decode code 502 = .ok (.iload_n 3, 1) := by decide +kernel
theorem d_W_law_503 : decode code 503 = .ok (.iconst 1, 1) := by decide +kernel
theorem d_W_law_504 : decode code 504 = .ok (.iadd, 1) := by decide +kernel
theorem d_W_law_505 : decode code 505 = .ok (.iaload, 1) := by decide +kernel
theorem d_W_law_506 : decode code 506 = .ok (.aload_n 0, 1) := by decide +kernel
theorem d_W_law_507 : decode code 507 = .ok (.iload_n 3, 1) := by decide +kernel
theorem d_W_law_508 : decode code 508 = .ok (.iconst 2, 1) := by decide +kernel
theorem d_W_law_509 : decode code 509 = .ok (.iadd, 1) := by decide +kernel
theorem d_W_law_510 : decode code 510 = .ok (.iaload, 1) := by decide +kernel
theorem d_W_law_511 : decode code 511 = .ok (.invokevirtual 60, 3) := by decide +kernel
theorem d_W_law_514 : decode code 514 = .ok (.if_icmp .eq 147, 3) := by decide +kernel
theorem d_W_law_517 : decode code 517 = .ok (.iconst 0, 1) := by decide +kernel
theorem d_W_law_518 : decode code 518 = .ok (.ireturn, 1) := by decide +kernel
theorem d_W_law_519 : decode code 519 = .ok (.aload_n 1, 1) := by decide +kernel
theorem d_W_law_520 : decode code 520 = .ok (.aload_n 0, 1) := by decide +kernel
theorem d_W_law_521 : decode code 521 = .ok (.iload_n 3, 1) := by decide +kernel
theorem d_W_law_522 : decode code 522 = .ok (.iconst 1, 1) := by decide +kernel
theorem d_W_law_523 : decode code 523 = .ok (.iadd, 1) := by decide +kernel
theorem d_W_law_524 : decode code 524 = .ok (.iaload, 1) := by decide +kernel
theorem d_W_law_525 : decode code 525 = .ok (.invokevirtual 61, 3) := by decide +kernel
theorem d_W_law_528 : decode code 528 = .ok (.aload_n 2, 1) := by decide +kernel
theorem d_W_law_529 : decode code 529 = .ok (.aload_n 0, 1) := by decide +kernel
theorem d_W_law_530 : decode code 530 = .ok (.iload_n 3, 1) := by decide +kernel
theorem d_W_law_531 : decode code 531 = .ok (.iconst 1, 1) := by decide +kernel
theorem d_W_law_532 : decode code 532 = .ok (.iadd, 1) := by decide +kernel
theorem d_W_law_533 : decode code 533 = .ok (.iaload, 1) := by decide +kernel
theorem d_W_law_534 : decode code 534 = .ok (.invokevirtual 64, 3) := by decide +kernel
theorem d_W_law_537 : decode code 537 = .ok (.if_icmp .eq 124, 3) := by decide +kernel
theorem d_W_law_540 : decode code 540 = .ok (.iconst 0, 1) := by decide +kernel
theorem d_W_law_541 : decode code 541 = .ok (.ireturn, 1) := by decide +kernel
theorem d_W_law_542 : decode code 542 = .ok (.aload_n 1, 1) := by decide +kernel
theorem d_W_law_543 : decode code 543 = .ok (.aload_n 0, 1) := by decide +kernel
theorem d_W_law_544 : decode code 544 = .ok (.iload_n 3, 1) := by decide +kernel
theorem d_W_law_545 : decode code 545 = .ok (.iconst 1, 1) := by decide +kernel
theorem d_W_law_546 : decode code 546 = .ok (.iadd, 1) := by decide +kernel
theorem d_W_law_547 : decode code 547 = .ok (.iaload, 1) := by decide +kernel
theorem d_W_law_548 : decode code 548 = .ok (.aload_n 0, 1) := by decide +kernel
theorem d_W_law_549 : decode code 549 = .ok (.iload_n 3, 1) := by decide +kernel
theorem d_W_law_550 : decode code 550 = .ok (.iconst 2, 1) := by decide +kernel
theorem d_W_law_551 : decode code 551 = .ok (.iadd, 1) := by decide +kernel
theorem d_W_law_552 : decode code 552 = .ok (.iaload, 1) := by decide +kernel
theorem d_W_law_553 : decode code 553 = .ok (.aload_n 0, 1) := by decide +kernel
theorem d_W_law_554 : decode code 554 = .ok (.iload_n 3, 1) := by decide +kernel
theorem d_W_law_555 : decode code 555 = .ok (.iconst 3, 1) := by decide +kernel
theorem d_W_law_556 : decode code 556 = .ok (.iadd, 1) := by decide +kernel
theorem d_W_law_557 : decode code 557 = .ok (.iaload, 1) := by decide +kernel
theorem d_W_law_558 : decode code 558 = .ok (.i2l, 1) := by decide +kernel
theorem d_W_law_559 : decode code 559 = .ok (.bipush 32, 2) := by decide +kernel
theorem d_W_law_561 : decode code 561 = .ok (.lshl, 1) := by decide +kernel
theorem d_W_law_562 : decode code 562 = .ok (.aload_n 0, 1) := by decide +kernel
theorem d_W_law_563 : decode code 563 = .ok (.iload_n 3, 1) := by decide +kernel
theorem d_W_law_564 : decode code 564 = .ok (.iconst 4, 1) := by decide +kernel
theorem d_W_law_565 : decode code 565 = .ok (.iadd, 1) := by decide +kernel
theorem d_W_law_566 : decode code 566 = .ok (.iaload, 1) := by decide +kernel
theorem d_W_law_567 : decode code 567 = .ok (.i2l, 1) := by decide +kernel
theorem d_W_law_568 : decode code 568 = .ok (.ldc2_w 13, 3) := by decide +kernel
theorem d_W_law_571 : decode code 571 = .ok (.land, 1) := by decide +kernel
theorem d_W_law_572 : decode code 572 = .ok (.lor, 1) := by decide +kernel
theorem d_W_law_573 : decode code 573 = .ok (.aload_n 0, 1) := by decide +kernel
theorem d_W_law_574 : decode code 574 = .ok (.iload_n 3, 1) := by decide +kernel
theorem d_W_law_575 : decode code 575 = .ok (.iconst 5, 1) := by decide +kernel
theorem d_W_law_576 : decode code 576 = .ok (.iadd, 1) := by decide +kernel
theorem d_W_law_577 : decode code 577 = .ok (.iaload, 1) := by decide +kernel
theorem d_W_law_578 : decode code 578 = .ok (.invokevirtual 65, 3) := by decide +kernel
theorem d_W_law_581 : decode code 581 = .ok (.aload_n 2, 1) := by decide +kernel
theorem d_W_law_582 : decode code 582 = .ok (.aload_n 0, 1) := by decide +kernel
theorem d_W_law_583 : decode code 583 = .ok (.iload_n 3, 1) := by decide +kernel
theorem d_W_law_584 : decode code 584 = .ok (.iconst 1, 1) := by decide +kernel
theorem d_W_law_585 : decode code 585 = .ok (.iadd, 1) := by decide +kernel
theorem d_W_law_586 : decode code 586 = .ok (.iaload, 1) := by decide +kernel
theorem d_W_law_587 : decode code 587 = .ok (.aload_n 0, 1) := by decide +kernel
theorem d_W_law_588 : decode code 588 = .ok (.iload_n 3, 1) := by decide +kernel
theorem d_W_law_589 : decode code 589 = .ok (.iconst 2, 1) := by decide +kernel
theorem d_W_law_590 : decode code 590 = .ok (.iadd, 1) := by decide +kernel
theorem d_W_law_591 : decode code 591 = .ok (.iaload, 1) := by decide +kernel
theorem d_W_law_592 : decode code 592 = .ok (.aload_n 0, 1) := by decide +kernel
theorem d_W_law_593 : decode code 593 = .ok (.iload_n 3, 1) := by decide +kernel
theorem d_W_law_594 : decode code 594 = .ok (.iconst 3, 1) := by decide +kernel
theorem d_W_law_595 : decode code 595 = .ok (.iadd, 1) := by decide +kernel
theorem d_W_law_596 : decode code 596 = .ok (.iaload, 1) := by decide +kernel
theorem d_W_law_597 : decode code 597 = .ok (.i2l, 1) := by decide +kernel
theorem d_W_law_598 : decode code 598 = .ok (.bipush 32, 2) := by decide +kernel
theorem d_W_law_600 : decode code 600 = .ok (.lshl, 1) := by decide +kernel
theorem d_W_law_601 : decode code 601 = .ok (.aload_n 0, 1) := by decide +kernel
theorem d_W_law_602 : decode code 602 = .ok (.iload_n 3, 1) := by decide +kernel
theorem d_W_law_603 : decode code 603 = .ok (.iconst 4, 1) := by decide +kernel
theorem d_W_law_604 : decode code 604 = .ok (.iadd, 1) := by decide +kernel
theorem d_W_law_605 : decode code 605 = .ok (.iaload, 1) := by decide +kernel
theorem d_W_law_606 : decode code 606 = .ok (.i2l, 1) := by decide +kernel
theorem d_W_law_607 : decode code 607 = .ok (.ldc2_w 13, 3) := by decide +kernel
theorem d_W_law_610 : decode code 610 = .ok (.land, 1) := by decide +kernel
theorem d_W_law_611 : decode code 611 = .ok (.lor, 1) := by decide +kernel
theorem d_W_law_612 : decode code 612 = .ok (.aload_n 0, 1) := by decide +kernel
theorem d_W_law_613 : decode code 613 = .ok (.iload_n 3, 1) := by decide +kernel
theorem d_W_law_614 : decode code 614 = .ok (.iconst 5, 1) := by decide +kernel
theorem d_W_law_615 : decode code 615 = .ok (.iadd, 1) := by decide +kernel
theorem d_W_law_616 : decode code 616 = .ok (.iaload, 1) := by decide +kernel
theorem d_W_law_617 : decode code 617 = .ok (.invokevirtual 69, 3) := by decide +kernel
theorem d_W_law_620 : decode code 620 = .ok (.if_icmp .eq 41, 3) := by decide +kernel
theorem d_W_law_623 : decode code 623 = .ok (.iconst 0, 1) := by decide +kernel
theorem d_W_law_624 : decode code 624 = .ok (.ireturn, 1) := by decide +kernel
theorem d_W_law_625 : decode code 625 = .ok (.aload_n 1, 1) := by decide +kernel
theorem d_W_law_626 : decode code 626 = .ok (.aload_n 0, 1) := by decide +kernel
theorem d_W_law_627 : decode code 627 = .ok (.iload_n 3, 1) := by decide +kernel
theorem d_W_law_628 : decode code 628 = .ok (.iconst 1, 1) := by decide +kernel
theorem d_W_law_629 : decode code 629 = .ok (.iadd, 1) := by decide +kernel
theorem d_W_law_630 : decode code 630 = .ok (.iaload, 1) := by decide +kernel
theorem d_W_law_631 : decode code 631 = .ok (.invokevirtual 70, 3) := by decide +kernel
theorem d_W_law_634 : decode code 634 = .ok (.aload_n 2, 1) := by decide +kernel
theorem d_W_law_635 : decode code 635 = .ok (.aload_n 0, 1) := by decide +kernel
theorem d_W_law_636 : decode code 636 = .ok (.iload_n 3, 1) := by decide +kernel
theorem d_W_law_637 : decode code 637 = .ok (.iconst 1, 1) := by decide +kernel
theorem d_W_law_638 : decode code 638 = .ok (.iadd, 1) := by decide +kernel
theorem d_W_law_639 : decode code 639 = .ok (.iaload, 1) := by decide +kernel
theorem d_W_law_640 : decode code 640 = .ok (.invokevirtual 73, 3) := by decide +kernel
theorem d_W_law_643 : decode code 643 = .ok (.if_icmp .eq 18, 3) := by decide +kernel
theorem d_W_law_646 : decode code 646 = .ok (.iconst 0, 1) := by decide +kernel
theorem d_W_law_647 : decode code 647 = .ok (.ireturn, 1) := by decide +kernel
theorem d_W_law_648 : decode code 648 = .ok (.aload_n 1, 1) := by decide +kernel
theorem d_W_law_649 : decode code 649 = .ok (.invokevirtual 74, 3) := by decide +kernel
theorem d_W_law_652 : decode code 652 = .ok (.aload_n 2, 1) := by decide +kernel
theorem d_W_law_653 : decode code 653 = .ok (.invokevirtual 77, 3) := by decide +kernel
theorem d_W_law_656 : decode code 656 = .ok (.if_icmp .eq 5, 3) := by decide +kernel
theorem d_W_law_659 : decode code 659 = .ok (.iconst 0, 1) := by decide +kernel
theorem d_W_law_660 : decode code 660 = .ok (.ireturn, 1) := by decide +kernel
theorem d_W_law_661 : decode code 661 = .ok (.iinc 3 8, 3) := by decide +kernel
theorem d_W_law_664 : decode code 664 = .ok (.goto (-646), 3) := by decide +kernel
theorem d_W_law_667 : decode code 667 = .ok (.iconst 1, 1) := by decide +kernel
theorem d_W_law_668 : decode code 668 = .ok (.ireturn, 1) := by decide +kernel

/-! decode rows -/
theorem d_La_law_109 : decode b_La_law 109 = .ok (.aload_n 0, 1) := by decide +kernel
theorem d_La_law_110 : decode b_La_law 110 = .ok (.iload 5, 2) := by decide +kernel
theorem d_La_law_112 : decode b_La_law 112 = .ok (.iconst 1, 1) := by decide +kernel
theorem d_La_law_113 : decode b_La_law 113 = .ok (.iadd, 1) := by decide +kernel
theorem d_La_law_114 : decode b_La_law 114 = .ok (.iaload, 1) := by decide +kernel
theorem d_La_law_115 : decode b_La_law 115 = .ok (.aload_n 0, 1) := by decide +kernel
theorem d_La_law_116 : decode b_La_law 116 = .ok (.iload 5, 2) := by decide +kernel
theorem d_La_law_118 : decode b_La_law 118 = .ok (.iconst 2, 1) := by decide +kernel
theorem d_La_law_119 : decode b_La_law 119 = .ok (.iadd, 1) := by decide +kernel
theorem d_La_law_120 : decode b_La_law 120 = .ok (.iaload, 1) := by decide +kernel
theorem d_La_law_121 : decode b_La_law 121 = .ok (.aload_n 0, 1) := by decide +kernel
theorem d_La_law_122 : decode b_La_law 122 = .ok (.iload 5, 2) := by decide +kernel
theorem d_La_law_124 : decode b_La_law 124 = .ok (.iconst 3, 1) := by decide +kernel
theorem d_La_law_125 : decode b_La_law 125 = .ok (.iadd, 1) := by decide +kernel
theorem d_La_law_126 : decode b_La_law 126 = .ok (.iaload, 1) := by decide +kernel
theorem d_La_law_127 : decode b_La_law 127 = .ok (.aload_n 0, 1) := by decide +kernel
theorem d_La_law_128 : decode b_La_law 128 = .ok (.iload 5, 2) := by decide +kernel
theorem d_La_law_130 : decode b_La_law 130 = .ok (.iconst 4, 1) := by decide +kernel
theorem d_La_law_131 : decode b_La_law 131 = .ok (.iadd, 1) := by decide +kernel
theorem d_La_law_132 : decode b_La_law 132 = .ok (.iaload, 1) := by decide +kernel
theorem d_La_law_133 : decode b_La_law 133 = .ok (.aload_n 3, 1) := by decide +kernel
theorem d_La_law_134 : decode b_La_law 134 = .ok (.invokestatic 60, 3) := by decide +kernel
theorem d_La_law_137 : decode b_La_law 137 = .ok (.istore 6, 2) := by decide +kernel
theorem d_La_law_139 : decode b_La_law 139 = .ok (.aload_n 2, 1) := by decide +kernel
theorem d_La_law_140 : decode b_La_law 140 = .ok (.aload_n 0, 1) := by decide +kernel
theorem d_La_law_141 : decode b_La_law 141 = .ok (.iload 5, 2) := by decide +kernel
theorem d_La_law_143 : decode b_La_law 143 = .ok (.iconst 1, 1) := by decide +kernel
theorem d_La_law_144 : decode b_La_law 144 = .ok (.iadd, 1) := by decide +kernel
theorem d_La_law_145 : decode b_La_law 145 = .ok (.iaload, 1) := by decide +kernel
theorem d_La_law_146 : decode b_La_law 146 = .ok (.aload_n 0, 1) := by decide +kernel
theorem d_La_law_147 : decode b_La_law 147 = .ok (.iload 5, 2) := by decide +kernel
theorem d_La_law_149 : decode b_La_law 149 = .ok (.iconst 2, 1) := by decide +kernel
theorem d_La_law_150 : decode b_La_law 150 = .ok (.iadd, 1) := by decide +kernel
theorem d_La_law_151 : decode b_La_law 151 = .ok (.iaload, 1) := by decide +kernel
theorem d_La_law_152 : decode b_La_law 152 = .ok (.aload_n 0, 1) := by decide +kernel
theorem d_La_law_153 : decode b_La_law 153 = .ok (.iload 5, 2) := by decide +kernel
theorem d_La_law_155 : decode b_La_law 155 = .ok (.iconst 3, 1) := by decide +kernel
theorem d_La_law_156 : decode b_La_law 156 = .ok (.iadd, 1) := by decide +kernel
theorem d_La_law_157 : decode b_La_law 157 = .ok (.iaload, 1) := by decide +kernel
theorem d_La_law_158 : decode b_La_law 158 = .ok (.aload_n 0, 1) := by decide +kernel
theorem d_La_law_159 : decode b_La_law 159 = .ok (.iload 5, 2) := by decide +kernel
theorem d_La_law_161 : decode b_La_law 161 = .ok (.iconst 4, 1) := by decide +kernel
theorem d_La_law_162 : decode b_La_law 162 = .ok (.iadd, 1) := by decide +kernel
theorem d_La_law_163 : decode b_La_law 163 = .ok (.iaload, 1) := by decide +kernel
theorem d_La_law_164 : decode b_La_law 164 = .ok (.invokevirtual 65, 3) := by decide +kernel
theorem d_La_law_167 : decode b_La_law 167 = .ok (.istore 7, 2) := by decide +kernel
theorem d_La_law_169 : decode b_La_law 169 = .ok (.aload_n 2, 1) := by decide +kernel
theorem d_La_law_170 : decode b_La_law 170 = .ok (.invokevirtual 66, 3) := by decide +kernel
theorem d_La_law_173 : decode b_La_law 173 = .ok (.iload 6, 2) := by decide +kernel
theorem d_La_law_175 : decode b_La_law 175 = .ok (.if_icmp .eq 5, 3) := by decide +kernel
theorem d_La_law_178 : decode b_La_law 178 = .ok (.iconst 0, 1) := by decide +kernel
theorem d_La_law_179 : decode b_La_law 179 = .ok (.ireturn, 1) := by decide +kernel
theorem d_La_law_180 : decode b_La_law 180 = .ok (.iload 6, 2) := by decide +kernel
theorem d_La_law_182 : decode b_La_law 182 = .ok (.ifCond .ne 15, 3) := by decide +kernel
theorem d_La_law_185 : decode b_La_law 185 = .ok (.aload_n 3, 1) := by decide +kernel
theorem d_La_law_186 : decode b_La_law 186 = .ok (.iconst 0, 1) := by decide +kernel
theorem d_La_law_187 : decode b_La_law 187 = .ok (.laload, 1) := by decide +kernel
theorem d_La_law_188 : decode b_La_law 188 = .ok (.iload 7, 2) := by decide +kernel
theorem d_La_law_190 : decode b_La_law 190 = .ok (.i2l, 1) := by decide +kernel
theorem d_La_law_191 : decode b_La_law 191 = .ok (.lcmp, 1) := by decide +kernel
theorem d_La_law_192 : decode b_La_law 192 = .ok (.ifCond .eq 5, 3) := by decide +kernel
theorem d_La_law_195 : decode b_La_law 195 = .ok (.iconst 0, 1) := by decide +kernel
theorem d_La_law_196 : decode b_La_law 196 = .ok (.ireturn, 1) := by decide +kernel
theorem d_La_law_197 : decode b_La_law 197 = .ok (.goto 733, 3) := by decide +kernel
theorem d_La_law_200 : decode b_La_law 200 = .ok (.aload_n 1, 1) := by decide +kernel
theorem d_La_law_201 : decode b_La_law 201 = .ok (.invokevirtual 70, 3) := by decide +kernel
theorem d_La_law_204 : decode b_La_law 204 = .ok (.aload_n 2, 1) := by decide +kernel
theorem d_La_law_205 : decode b_La_law 205 = .ok (.invokevirtual 73, 3) := by decide +kernel
theorem d_La_law_208 : decode b_La_law 208 = .ok (.if_icmp .eq 722, 3) := by decide +kernel
theorem d_La_law_211 : decode b_La_law 211 = .ok (.iconst 0, 1) := by decide +kernel
theorem d_La_law_212 : decode b_La_law 212 = .ok (.ireturn, 1) := by decide +kernel
theorem d_La_law_213 : decode b_La_law 213 = .ok (.aload_n 1, 1) := by decide +kernel
theorem d_La_law_214 : decode b_La_law 214 = .ok (.aload_n 0, 1) := by decide +kernel
theorem d_La_law_215 : decode b_La_law 215 = .ok (.iload 5, 2) := by decide +kernel
theorem d_La_law_217 : decode b_La_law 217 = .ok (.iconst 1, 1) := by decide +kernel
theorem d_La_law_218 : decode b_La_law 218 = .ok (.iadd, 1) := by decide +kernel
theorem d_La_law_219 : decode b_La_law 219 = .ok (.iaload, 1) := by decide +kernel
theorem d_La_law_220 : decode b_La_law 220 = .ok (.aload_n 3, 1) := by decide +kernel
theorem d_La_law_221 : decode b_La_law 221 = .ok (.invokestatic 74, 3) := by decide +kernel
theorem d_La_law_224 : decode b_La_law 224 = .ok (.istore 6, 2) := by decide +kernel
theorem d_La_law_226 : decode b_La_law 226 = .ok (.aload_n 2, 1) := by decide +kernel
theorem d_La_law_227 : decode b_La_law 227 = .ok (.aload_n 0, 1) := by decide +kernel
theorem d_La_law_228 : decode b_La_law 228 = .ok (.iload 5, 2) := by decide +kernel
theorem d_La_law_230 : decode b_La_law 230 = .ok (.iconst 1, 1) := by decide +kernel
theorem d_La_law_231 : decode b_La_law 231 = .ok (.iadd, 1) := by decide +kernel
theorem d_La_law_232 : decode b_La_law 232 = .ok (.iaload, 1) := by decide +kernel
theorem d_La_law_233 : decode b_La_law 233 = .ok (.invokevirtual 77, 3) := by decide +kernel
theorem d_La_law_236 : decode b_La_law 236 = .ok (.istore 7, 2) := by decide +kernel
theorem d_La_law_238 : decode b_La_law 238 = .ok (.aload_n 2, 1) := by decide +kernel
theorem d_La_law_239 : decode b_La_law 239 = .ok (.invokevirtual 66, 3) := by decide +kernel
theorem d_La_law_242 : decode b_La_law 242 = .ok (.iload 6, 2) := by decide +kernel
theorem d_La_law_244 : decode b_La_law 244 = .ok (.if_icmp .eq 5, 3) := by decide +kernel
theorem d_La_law_247 : decode b_La_law 247 = .ok (.iconst 0, 1) := by decide +kernel
theorem d_La_law_248 : decode b_La_law 248 = .ok (.ireturn, 1) := by decide +kernel
theorem d_La_law_249 : decode b_La_law 249 = .ok (.iload 6, 2) := by decide +kernel
theorem d_La_law_251 : decode b_La_law 251 = .ok (.ifCond .ne 15, 3) := by decide +kernel
theorem d_La_law_254 : decode b_La_law 254 = .ok (.aload_n 3, 1) := by decide +kernel
theorem d_La_law_255 : decode b_La_law 255 = .ok (.iconst 0, 1) := by decide +kernel
theorem d_La_law_256 : decode b_La_law 256 = .ok (.laload, 1) := by decide +kernel
theorem d_La_law_257 : decode b_La_law 257 = .ok (.iload 7, 2) := by decide +kernel
theorem d_La_law_259 : decode b_La_law 259 = .ok (.i2l, 1) := by decide +kernel
theorem d_La_law_260 : decode b_La_law 260 = .ok (.lcmp, 1) := by decide +kernel
theorem d_La_law_261 : decode b_La_law 261 = .ok (.ifCond .eq 5, 3) := by decide +kernel
theorem d_La_law_264 : decode b_La_law 264 = .ok (.iconst 0, 1) := by decide +kernel
theorem d_La_law_265 : decode b_La_law 265 = .ok (.ireturn, 1) := by decide +kernel
theorem d_La_law_266 : decode b_La_law 266 = .ok (.goto 664, 3) := by decide +kernel
theorem d_La_law_269 : decode b_La_law 269 = .ok (.aload_n 1, 1) := by decide +kernel
theorem d_La_law_270 : decode b_La_law 270 = .ok (.aload_n 0, 1) := by decide +kernel
theorem d_La_law_271 : decode b_La_law 271 = .ok (.iload 5, 2) := by decide +kernel
theorem d_La_law_273 : decode b_La_law 273 = .ok (.iconst 1, 1) := by decide +kernel
theorem d_La_law_274 : decode b_La_law 274 = .ok (.iadd, 1) := by decide +kernel
theorem d_La_law_275 : decode b_La_law 275 = .ok (.iaload, 1) := by decide +kernel
theorem d_La_law_276 : decode b_La_law 276 = .ok (.aload_n 3, 1) := by decide +kernel
theorem d_La_law_277 : decode b_La_law 277 = .ok (.invokestatic 78, 3) := by decide +kernel
theorem d_La_law_280 : decode b_La_law 280 = .ok (.istore 6, 2) := by decide +kernel
theorem d_La_law_282 : decode b_La_law 282 = .ok (.aload_n 2, 1) := by decide +kernel
theorem d_La_law_283 : decode b_La_law 283 = .ok (.aload_n 0, 1) := by decide +kernel
theorem d_La_law_284 : decode b_La_law 284 = .ok (.iload 5, 2) := by decide +kernel
theorem d_La_law_286 : decode b_La_law 286 = .ok (.iconst 1, 1) := by decide +kernel
theorem d_La_law_287 : decode b_La_law 287 = .ok (.iadd, 1) := by decide +kernel
theorem d_La_law_288 : decode b_La_law 288 = .ok (.iaload, 1) := by decide +kernel
theorem d_La_law_289 : decode b_La_law 289 = .ok (.invokevirtual 80, 3) := by decide +kernel
theorem d_La_law_292 : decode b_La_law 292 = .ok (.istore 7, 2) := by decide +kernel
theorem d_La_law_294 : decode b_La_law 294 = .ok (.aload_n 2, 1) := by decide +kernel
theorem d_La_law_295 : decode b_La_law 295 = .ok (.invokevirtual 66, 3) := by decide +kernel
theorem d_La_law_298 : decode b_La_law 298 = .ok (.iload 6, 2) := by decide +kernel
theorem d_La_law_300 : decode b_La_law 300 = .ok (.if_icmp .eq 5, 3) := by decide +kernel
theorem d_La_law_303 : decode b_La_law 303 = .ok (.iconst 0, 1) := by decide +kernel
theorem d_La_law_304 : decode b_La_law 304 = .ok (.ireturn, 1) := by decide +kernel
theorem d_La_law_305 : decode b_La_law 305 = .ok (.iload 6, 2) := by decide +kernel
theorem d_La_law_307 : decode b_La_law 307 = .ok (.ifCond .ne 15, 3) := by decide +kernel
theorem d_La_law_310 : decode b_La_law 310 = .ok (.aload_n 3, 1) := by decide +kernel
theorem d_La_law_311 : decode b_La_law 311 = .ok (.iconst 0, 1) := by decide +kernel
theorem d_La_law_312 : decode b_La_law 312 = .ok (.laload, 1) := by decide +kernel
theorem d_La_law_313 : decode b_La_law 313 = .ok (.iload 7, 2) := by decide +kernel
theorem d_La_law_315 : decode b_La_law 315 = .ok (.i2l, 1) := by decide +kernel
theorem d_La_law_316 : decode b_La_law 316 = .ok (.lcmp, 1) := by decide +kernel
theorem d_La_law_317 : decode b_La_law 317 = .ok (.ifCond .eq 5, 3) := by decide +kernel
theorem d_La_law_320 : decode b_La_law 320 = .ok (.iconst 0, 1) := by decide +kernel
theorem d_La_law_321 : decode b_La_law 321 = .ok (.ireturn, 1) := by decide +kernel
theorem d_La_law_322 : decode b_La_law 322 = .ok (.goto 608, 3) := by decide +kernel
theorem d_La_law_325 : decode b_La_law 325 = .ok (.aload_n 1, 1) := by decide +kernel
theorem d_La_law_326 : decode b_La_law 326 = .ok (.aload_n 0, 1) := by decide +kernel
theorem d_La_law_327 : decode b_La_law 327 = .ok (.iload 5, 2) := by decide +kernel
theorem d_La_law_329 : decode b_La_law 329 = .ok (.iconst 1, 1) := by decide +kernel
theorem d_La_law_330 : decode b_La_law 330 = .ok (.iadd, 1) := by decide +kernel
theorem d_La_law_331 : decode b_La_law 331 = .ok (.iaload, 1) := by decide +kernel
theorem d_La_law_332 : decode b_La_law 332 = .ok (.aload 4, 2) := by decide +kernel
theorem d_La_law_334 : decode b_La_law 334 = .ok (.invokestatic 81, 3) := by decide +kernel
theorem d_La_law_337 : decode b_La_law 337 = .ok (.istore 6, 2) := by decide +kernel
theorem d_La_law_339 : decode b_La_law 339 = .ok (.aload_n 2, 1) := by decide +kernel
theorem d_La_law_340 : decode b_La_law 340 = .ok (.aload_n 0, 1) := by decide +kernel
theorem d_La_law_341 : decode b_La_law 341 = .ok (.iload 5, 2) := by decide +kernel
theorem d_La_law_343 : decode b_La_law 343 = .ok (.iconst 1, 1) := by decide +kernel
theorem d_La_law_344 : decode b_La_law 344 = .ok (.iadd, 1) := by decide +kernel
theorem d_La_law_345 : decode b_La_law 345 = .ok (.iaload, 1) := by decide +kernel
theorem d_La_law_346 : decode b_La_law 346 = .ok (.invokevirtual 84, 3) := by decide +kernel
theorem d_La_law_349 : decode b_La_law 349 = .ok (.dstore 7, 2) := by decide +kernel
theorem d_La_law_351 : decode b_La_law 351 = .ok (.aload_n 2, 1) := by decide +kernel
theorem d_La_law_352 : decode b_La_law 352 = .ok (.invokevirtual 66, 3) := by decide +kernel
theorem d_La_law_355 : decode b_La_law 355 = .ok (.iload 6, 2) := by decide +kernel
theorem d_La_law_357 : decode b_La_law 357 = .ok (.if_icmp .eq 5, 3) := by decide +kernel
theorem d_La_law_360 : decode b_La_law 360 = .ok (.iconst 0, 1) := by decide +kernel
theorem d_La_law_361 : decode b_La_law 361 = .ok (.ireturn, 1) := by decide +kernel
theorem d_La_law_362 : decode b_La_law 362 = .ok (.iload 6, 2) := by decide +kernel
theorem d_La_law_364 : decode b_La_law 364 = .ok (.ifCond .ne 35, 3) := by decide +kernel
theorem d_La_law_367 : decode b_La_law 367 = .ok (.aload 4, 2) := by decide +kernel
theorem d_La_law_369 : decode b_La_law 369 = .ok (.iconst 0, 1) := by decide +kernel
theorem d_La_law_370 : decode b_La_law 370 = .ok (.daload, 1) := by decide +kernel
theorem d_La_law_371 : decode b_La_law 371 = .ok (.dload 7, 2) := by decide +kernel
theorem d_La_law_373 : decode b_La_law 373 = .ok (.dcmp .l, 1) := by decide +kernel
theorem d_La_law_374 : decode b_La_law 374 = .ok (.ifCond .eq 25, 3) := by decide +kernel
theorem d_La_law_377 : decode b_La_law 377 = .ok (.aload 4, 2) := by decide +kernel
theorem d_La_law_379 : decode b_La_law 379 = .ok (.iconst 0, 1) := by decide +kernel
theorem d_La_law_380 : decode b_La_law 380 = .ok (.daload, 1) := by decide +kernel
theorem d_La_law_381 : decode b_La_law 381 = .ok (.aload 4, 2) := by decide +kernel
theorem d_La_law_383 : decode b_La_law 383 = .ok (.iconst 0, 1) := by decide +kernel
theorem d_La_law_384 : decode b_La_law 384 = .ok (.daload, 1) := by decide +kernel
theorem d_La_law_385 : decode b_La_law 385 = .ok (.dcmp .l, 1) := by decide +kernel
theorem d_La_law_386 : decode b_La_law 386 = .ok (.ifCond .eq 11, 3) := by decide +kernel
theorem d_La_law_389 : decode b_La_law 389 = .ok (.dload 7, 2) := by decide +kernel
theorem d_La_law_391 : decode b_La_law 391 = .ok (.dload 7, 2) := by decide +kernel
theorem d_La_law_393 : decode b_La_law 393 = .ok (.dcmp .l, 1) := by decide +kernel
theorem d_La_law_394 : decode b_La_law 394 = .ok (.ifCond .ne 5, 3) := by decide +kernel
theorem d_La_law_397 : decode b_La_law 397 = .ok (.iconst 0, 1) := by decide +kernel
theorem d_La_law_398 : decode b_La_law 398 = .ok (.ireturn, 1) := by decide +kernel
theorem d_La_law_399 : decode b_La_law 399 = .ok (.goto 531, 3) := by decide +kernel
theorem d_La_law_402 : decode b_La_law 402 = .ok (.aload_n 1, 1) := by decide +kernel
theorem d_La_law_403 : decode b_La_law 403 = .ok (.aload_n 0, 1) := by decide +kernel
theorem d_La_law_404 : decode b_La_law 404 = .ok (.iload 5, 2) := by decide +kernel
theorem d_La_law_406 : decode b_La_law 406 = .ok (.iconst 1, 1) := by decide +kernel
theorem d_La_law_407 : decode b_La_law 407 = .ok (.iadd, 1) := by decide +kernel
theorem d_La_law_408 : decode b_La_law 408 = .ok (.iaload, 1) := by decide +kernel
theorem d_La_law_409 : decode b_La_law 409 = .ok (.aload_n 0, 1) := by decide +kernel
theorem d_La_law_410 : decode b_La_law 410 = .ok (.iload 5, 2) := by decide +kernel
theorem d_La_law_412 : decode b_La_law 412 = .ok (.iconst 2, 1) := by decide +kernel
theorem d_La_law_413 : decode b_La_law 413 = .ok (.iadd, 1) := by decide +kernel
theorem d_La_law_414 : decode b_La_law 414 = .ok (.iaload, 1) := by decide +kernel
theorem d_La_law_415 : decode b_La_law 415 = .ok (.aload_n 3, 1) := by decide +kernel
theorem d_La_law_416 : decode b_La_law 416 = .ok (.invokestatic 85, 3) := by decide +kernel

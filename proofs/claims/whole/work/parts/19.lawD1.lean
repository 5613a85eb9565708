theorem d_LW_law_0 : decode code 0 = .ok (.new 8, 3) := by decide +kernel
theorem d_LW_law_3 : decode code 3 = .ok (.dup, 1) := by decide +kernel
theorem d_LW_law_4 : decode code 4 = .ok (.invokespecial 92, 3) := by decide +kernel
theorem d_LW_law_7 : decode code 7 = .ok (.astore_n 1, 1) := by decide +kernel
theorem d_LW_law_8 : decode code 8 = .ok (.new 93, 3) := by decide +kernel
theorem d_LW_law_11 : decode code 11 = .ok (.dup, 1) := by decide +kernel
theorem d_LW_law_12 : decode code 12 = .ok (.invokespecial 95, 3) := by decide +kernel
theorem d_LW_law_15 : decode code 15 = .ok (.astore_n 2, 1) := by decide +kernel
theorem d_LW_law_16 : decode code 16 = .ok (.iconst 1, 1) := by decide +kernel
theorem d_LW_law_17 : decode code 17 = .ok (.newarray .long, 2) := by decide +kernel
theorem d_LW_law_19 : decode code 19 = .ok (.astore_n 3, 1) := by decide +kernel
theorem d_LW_law_20 : decode code 20 = .ok (.iconst 0, 1) := by decide +kernel
theorem d_LW_law_21 : decode code 21 = .ok (.istore 4, 2) := by decide +kernel
theorem d_LW_law_23 : decode code 23 = .ok (.iload 4, 2) := by decide +kernel
theorem d_LW_law_25 : decode code 25 = .ok (.aload_n 0, 1) := by decide +kernel
theorem d_LW_law_26 : decode code 26 = .ok (.arraylength, 1) := by decide +kernel
theorem d_LW_law_27 : decode code 27 = .ok (.iconst 5, 1) := by decide +kernel
theorem d_LW_law_28 : decode code 28 = .ok (.isub, 1) := by decide +kernel
theorem d_LW_law_29 : decode code 29 = .ok (.if_icmp .gt 1500, 3) := by decide +kernel
theorem d_LW_law_32 : decode code 32 = .ok (.aload_n 0, 1) := by decide +kernel
theorem d_LW_law_33 : decode code 33 = .ok (.iload 4, 2) := by decide +kernel
theorem d_LW_law_35 : decode code 35 = .ok (.iaload, 1) := by decide +kernel
theorem d_LW_law_36 : decode code 36 = .ok (.bipush 31, 2) := by decide +kernel
theorem d_LW_law_38 : decode code 38 = .ok (.iand, 1) := by decide +kernel
theorem d_LW_law_39 : decode code 39 = .ok (.tableswitch 1484 0 20 #[97, 177, 225, 285, 345, 405, 497, 557, 617, 689, 749, 797, 865, 964, 1019, 1086, 1154, 1254, 1317, 1373, 1428], 97) := by decide +kernel
theorem d_LW_law_136 : decode code 136 = .ok (.aload_n 1, 1) := by decide +kernel
theorem d_LW_law_137 : decode code 137 = .ok (.aload_n 0, 1) := by decide +kernel
theorem d_LW_law_138 : decode code 138 = .ok (.iload 4, 2) := by decide +kernel
theorem d_LW_law_140 : decode code 140 = .ok (.iconst 1, 1) := by decide +kernel
theorem d_LW_law_141 : decode code 141 = .ok (.iadd, 1) := by decide +kernel
theorem d_LW_law_142 : decode code 142 = .ok (.iaload, 1) := by decide +kernel
theorem d_LW_law_143 : decode code 143 = .ok (.aload_n 0, 1) := by decide +kernel
theorem d_LW_law_144 : decode code 144 = .ok (.iload 4, 2) := by decide +kernel
theorem d_LW_law_146 : decode code 146 = .ok (.iconst 2, 1) := by decide +kernel
theorem d_LW_law_147 : decode code 147 = .ok (.iadd, 1) := by decide +kernel
theorem d_LW_law_148 : decode code 148 = .ok (.iaload, 1) := by decide +kernel
theorem d_LW_law_149 : decode code 149 = .ok (.i2l, 1) := by decide +kernel
theorem d_LW_law_150 : decode code 150 = .ok (.bipush 32, 2) := by decide +kernel
theorem d_LW_law_152 : decode code 152 = .ok (.lshl, 1) := by decide +kernel
theorem d_LW_law_153 : decode code 153 = .ok (.aload_n 0, 1) := by decide +kernel
theorem d_LW_law_154 : decode code 154 = .ok (.iload 4, 2) := by decide +kernel
theorem d_LW_law_156 : decode code 156 = .ok (.iconst 3, 1) := by decide +kernel
theorem d_LW_law_157 : decode code 157 = .ok (.iadd, 1) := by decide +kernel
theorem d_LW_law_158 : decode code 158 = .ok (.iaload, 1) := by decide +kernel
theorem d_LW_law_159 : decode code 159 = .ok (.i2l, 1) := by decide +kernel
theorem d_LW_law_160 : decode code 160 = .ok (.ldc2_w 96, 3) := by decide +kernel
theorem d_LW_law_163 : decode code 163 = .ok (.land, 1) := by decide +kernel
theorem d_LW_law_164 : decode code 164 = .ok (.lor, 1) := by decide +kernel
theorem d_LW_law_165 : decode code 165 = .ok (.invokestatic 98, 3) := by decide +kernel
theorem d_LW_law_168 : decode code 168 = .ok (.istore 5, 2) := by decide +kernel
theorem d_LW_law_170 : decode code 170 = .ok (.aload_n 2, 1) := by decide +kernel
theorem d_LW_law_171 : decode code 171 = .ok (.aload_n 0, 1) := by decide +kernel
theorem d_LW_law_172 : decode code 172 = .ok (.iload 4, 2) := by decide +kernel
theorem d_LW_law_174 : decode code 174 = .ok (.iconst 1, 1) := by decide +kernel
theorem d_LW_law_175 : decode code 175 = .ok (.iadd, 1) := by decide +kernel
theorem d_LW_law_176 : decode code 176 = .ok (.iaload, 1) := by decide +kernel
theorem d_LW_law_177 : decode code 177 = .ok (.aload_n 0, 1) := by decide +kernel
theorem d_LW_law_178 : decode code 178 = .ok (.iload 4, 2) := by decide +kernel
theorem d_LW_law_180 : decode code 180 = .ok (.iconst 2, 1) := by decide +kernel
theorem d_LW_law_181 : decode code 181 = .ok (.iadd, 1) := by decide +kernel
theorem d_LW_law_182 : decode code 182 = .ok (.iaload, 1) := by decide +kernel
theorem d_LW_law_183 : decode code 183 = .ok (.i2l, 1) := by decide +kernel
theorem d_LW_law_184 : decode code 184 = .ok (.bipush 32, 2) := by decide +kernel
theorem d_LW_law_186 : decode code 186 = .ok (.lshl, 1) := by decide +kernel
theorem d_LW_law_187 : decode code 187 = .ok (.aload_n 0, 1) := by decide +kernel
theorem d_LW_law_188 : decode code 188 = .ok (.iload 4, 2) := by decide +kernel
theorem d_LW_law_190 : decode code 190 = .ok (.iconst 3, 1) := by decide +kernel
theorem d_LW_law_191 : decode code 191 = .ok (.iadd, 1) := by decide +kernel
theorem d_LW_law_192 : decode code 192 = .ok (.iaload, 1) := by decide +kernel
theorem d_LW_law_193 : decode code 193 = .ok (.i2l, 1) := by decide +kernel
theorem d_LW_law_194 : decode code 194 = .ok (.ldc2_w 96, 3) := by decide +kernel
theorem d_LW_law_197 : decode code 197 = .ok (.land, 1) := by decide +kernel
theorem d_LW_law_198 : decode code 198 = .ok (.lor, 1) := by decide +kernel
theorem d_LW_law_199 : decode code 199 = .ok (.invokevirtual 103, 3) := by decide +kernel
theorem d_LW_law_202 : decode code 202 = .ok (.aload_n 2, 1) := by decide +kernel
theorem d_LW_law_203 : decode code 203 = .ok (.invokevirtual 104, 3) := by decide +kernel
theorem d_LW_law_206 : decode code 206 = .ok (.iload 5, 2) := by decide +kernel
theorem d_LW_law_208 : decode code 208 = .ok (.if_icmp .eq 5, 3) := by decide +kernel
theorem d_LW_law_211 : decode code 211 = .ok (.iconst 0, 1) := by decide +kernel
theorem d_LW_law_213 : decode code 213 = .ok (.goto 1310, 3) := by decide +kernel
theorem d_LW_law_216 : decode code 216 = .ok (.aload_n 1, 1) := by decide +kernel
theorem d_LW_law_217 : decode code 217 = .ok (.aload_n 0, 1) := by decide +kernel
theorem d_LW_law_218 : decode code 218 = .ok (.iload 4, 2) := by decide +kernel
theorem d_LW_law_220 : decode code 220 = .ok (.iconst 1, 1) := by decide +kernel
theorem d_LW_law_221 : decode code 221 = .ok (.iadd, 1) := by decide +kernel
theorem d_LW_law_222 : decode code 222 = .ok (.iaload, 1) := by decide +kernel
theorem d_LW_law_223 : decode code 223 = .ok (.aload_n 0, 1) := by decide +kernel
theorem d_LW_law_224 : decode code 224 = .ok (.iload 4, 2) := by decide +kernel
theorem d_LW_law_226 : decode code 226 = .ok (.iconst 2, 1) := by decide +kernel
theorem d_LW_law_227 : decode code 227 = .ok (.iadd, 1) := by decide +kernel
theorem d_LW_law_228 : decode code 228 = .ok (.iaload, 1) := by decide +kernel
theorem d_LW_law_229 : decode code 229 = .ok (.invokestatic 108, 3) := by decide +kernel
theorem d_LW_law_232 : decode code 232 = .ok (.istore 5, 2) := by decide +kernel
theorem d_LW_law_234 : decode code 234 = .ok (.aload_n 2, 1) := by decide +kernel
theorem d_LW_law_235 : decode code 235 = .ok (.aload_n 0, 1) := by decide +kernel
theorem d_LW_law_236 : decode code 236 = .ok (.iload 4, 2) := by decide +kernel
theorem d_LW_law_238 : decode code 238 = .ok (.iconst 1, 1) := by decide +kernel
theorem d_LW_law_239 : decode code 239 = .ok (.iadd, 1) := by decide +kernel
theorem d_LW_law_240 : decode code 240 = .ok (.iaload, 1) := by decide +kernel
theorem d_LW_law_241 : decode code 241 = .ok (.aload_n 0, 1) := by decide +kernel
theorem d_LW_law_242 : decode code 242 = .ok (.iload 4, 2) := by decide +kernel
theorem d_LW_law_244 : decode code 244 = .ok (.iconst 2, 1) := by decide +kernel
theorem d_LW_law_245 : decode code 245 = .ok (.iadd, 1) := by decide +kernel
theorem d_LW_law_246 : decode code 246 = .ok (.iaload, 1) := by decide +kernel
theorem d_LW_law_247 : decode code 247 = .ok (.invokevirtual 111, 3) := by decide +kernel
theorem d_LW_law_250 : decode code 250 = .ok (.aload_n 2, 1) := by decide +kernel
theorem d_LW_law_251 : decode code 251 = .ok (.invokevirtual 104, 3) := by decide +kernel
theorem d_LW_law_254 : decode code 254 = .ok (.iload 5, 2) := by decide +kernel
theorem d_LW_law_256 : decode code 256 = .ok (.if_icmp .eq 5, 3) := by decide +kernel
theorem d_LW_law_259 : decode code 259 = .ok (.iconst 0, 1) := by decide +kernel
theorem d_LW_law_261 : decode code 261 = .ok (.goto 1262, 3) := by decide +kernel
theorem d_LW_law_264 : decode code 264 = .ok (.aload_n 1, 1) := by decide +kernel
theorem d_LW_law_265 : decode code 265 = .ok (.aload_n 0, 1) := by decide +kernel
theorem d_LW_law_266 : decode code 266 = .ok (.iload 4, 2) := by decide +kernel
theorem d_LW_law_268 : decode code 268 = .ok (.iconst 1, 1) := by decide +kernel
theorem d_LW_law_269 : decode code 269 = .ok (.iadd, 1) := by decide +kernel
theorem d_LW_law_270 : decode code 270 = .ok (.iaload, 1) := by decide +kernel
theorem d_LW_law_271 : decode code 271 = .ok (.aload_n 0, 1) := by decide +kernel
theorem d_LW_law_272 : decode code 272 = .ok (.iload 4, 2) := by decide +kernel
theorem d_LW_law_274 : decode code 274 = .ok (.iconst 2, 1) := by decide +kernel
theorem d_LW_law_275 : decode code 275 = .ok (.iadd, 1) := by decide +kernel
theorem d_LW_law_276 : decode code 276 = .ok (.iaload, 1) := by decide +kernel
theorem d_LW_law_277 : decode code 277 = .ok (.aload_n 0, 1) := by decide +kernel
theorem d_LW_law_278 : decode code 278 = .ok (.iload 4, 2) := by decide +kernel
theorem d_LW_law_280 : decode code 280 = .ok (.iconst 3, 1) := by decide +kernel
theorem d_LW_law_281 : decode code 281 = .ok (.iadd, 1) := by decide +kernel
theorem d_LW_law_282 : decode code 282 = .ok (.iaload, 1) := by decide +kernel
theorem d_LW_law_283 : decode code 283 = .ok (.invokestatic 112, 3) := by decide +kernel
theorem d_LW_law_286 : decode code 286 = .ok (.istore 5, 2) := by decide +kernel
theorem d_LW_law_288 : decode code 288 = .ok (.aload_n 2, 1) := by decide +kernel
theorem d_LW_law_289 : decode code 289 = .ok (.aload_n 0, 1) := by decide +kernel
theorem d_LW_law_290 : decode code 290 = .ok (.iload 4, 2) := by decide +kernel
theorem d_LW_law_292 : decode code 292 = .ok (.iconst 1, 1) := by decide +kernel
theorem d_LW_law_293 : decode code 293 = .ok (.iadd, 1) := by decide +kernel
theorem d_LW_law_294 : decode code 294 = .ok (.iaload, 1) := by decide +kernel
theorem d_LW_law_295 : decode code 295 = .ok (.aload_n 0, 1) := by decide +kernel
theorem d_LW_law_296 : decode code 296 = .ok (.iload 4, 2) := by decide +kernel
theorem d_LW_law_298 : decode code 298 = .ok (.iconst 2, 1) := by decide +kernel
theorem d_LW_law_299 : decode code 299 = .ok (.iadd, 1) := by decide +kernel
theorem d_LW_law_300 : decode code 300 = .ok (.iaload, 1) := by decide +kernel
theorem d_LW_law_301 : decode code 301 = .ok (.aload_n 0, 1) := by decide +kernel
theorem d_LW_law_302 : decode code 302 = .ok (.iload 4, 2) := by decide +kernel
theorem d_LW_law_304 : decode code 304 = .ok (.iconst 3, 1) := by decide +kernel
theorem d_LW_law_305 : decode code 305 = .ok (.iadd, 1) := by decide +kernel
theorem d_LW_law_306 : decode code 306 = .ok (.iaload, 1) := by decide +kernel
theorem d_LW_law_307 : decode code 307 = .ok (.invokevirtual 115, 3) := by decide +kernel
theorem d_LW_law_310 : decode code 310 = .ok (.aload_n 2, 1) := by decide +kernel
theorem d_LW_law_311 : decode code 311 = .ok (.invokevirtual 104, 3) := by decide +kernel
theorem d_LW_law_314 : decode code 314 = .ok (.iload 5, 2) := by decide +kernel
theorem d_LW_law_316 : decode code 316 = .ok (.if_icmp .eq 5, 3) := by decide +kernel
theorem d_LW_law_319 : decode code 319 = .ok (.iconst 0, 1) := by decide +kernel
theorem d_LW_law_321 : decode code 321 = .ok (.goto 1202, 3) := by decide +kernel
theorem d_LW_law_324 : decode code 324 = .ok (.aload_n 1, 1) := by decide +kernel
theorem d_LW_law_325 : decode code 325 = .ok (.aload_n 0, 1) := by decide +kernel
theorem d_LW_law_326 : decode code 326 = .ok (.iload 4, 2) := by decide +kernel
theorem d_LW_law_328 : decode code 328 = .ok (.iconst 1, 1) := by decide +kernel
theorem d_LW_law_329 : decode code 329 = .ok (.iadd, 1) := by decide +kernel
theorem d_LW_law_330 : decode code 330 = .ok (.iaload, 1) := by decide +kernel
theorem d_LW_law_331 : decode code 331 = .ok (.aload_n 0, 1) := by decide +kernel
theorem d_LW_law_332 : decode code 332 = .ok (.iload 4, 2) := by decide +kernel
theorem d_LW_law_334 : decode code 334 = .ok (.iconst 2, 1) := by decide +kernel
theorem d_LW_law_335 : decode code 335 = .ok (.iadd, 1) := by decide +kernel
theorem d_LW_law_336 : decode code 336 = .ok (.iaload, 1) := by decide +kernel
theorem d_LW_law_337 : decode code 337 = .ok (.aload_n 0, 1) := by decide +kernel
theorem d_LW_law_338 : decode code 338 = .ok (.iload 4, 2) := by decide +kernel
theorem d_LW_law_340 : decode code 340 = .ok (.iconst 3, 1) := by decide +kernel
theorem d_LW_law_341 : decode code 341 = .ok (.iadd, 1) := by decide +kernel
theorem d_LW_law_342 : decode code 342 = .ok (.iaload, 1) := by decide +kernel
theorem d_LW_law_343 : decode code 343 = .ok (.invokestatic 116, 3) := by decide +kernel
theorem d_LW_law_346 : decode code 346 = .ok (.istore 5, 2) := by decide +kernel
theorem d_LW_law_348 : decode code 348 = .ok (.aload_n 2, 1) := by decide +kernel
theorem d_LW_law_349 : decode code 349 = .ok (.aload_n 0, 1) := by decide +kernel
theorem d_LW_law_350 : decode code 350 = .ok (.iload 4, 2) := by decide +kernel
theorem d_LW_law_352 : decode code 352 = .ok (.iconst 1, 1) := by decide +kernel
theorem d_LW_law_353 : decode code 353 = .ok (.iadd, 1) := by decide +kernel
theorem d_LW_law_354 : decode code 354 = .ok (.iaload, 1) := by decide +kernel
theorem d_LW_law_355 : decode code 355 = .ok (.aload_n 0, 1) := by decide +kernel
theorem d_LW_law_356 : decode code 356 = .ok (.iload 4, 2) := by decide +kernel
theorem d_LW_law_358 : decode code 358 = .ok (.iconst 2, 1) := by decide +kernel
theorem d_LW_law_359 : decode code 359 = .ok (.iadd, 1) := by decide +kernel
theorem d_LW_law_360 : decode code 360 = .ok (.iaload, 1) := by decide +kernel
theorem d_LW_law_361 : decode code 361 = .ok (.aload_n 0, 1) := by decide +kernel
theorem d_LW_law_362 : decode code 362 = .ok (.iload 4, 2) := by decide +kernel
theorem d_LW_law_364 : decode code 364 = .ok (.iconst 3, 1) := by decide +kernel
theorem d_LW_law_365 : decode code 365 = .ok (.iadd, 1) := by decide +kernel
theorem d_LW_law_366 : decode code 366 = .ok (.iaload, 1) := by decide +kernel
theorem d_LW_law_367 : decode code 367 = .ok (.invokevirtual 118, 3) := by decide +kernel
theorem d_LW_law_370 : decode code 370 = .ok (.aload_n 2, 1) := by decide +kernel
theorem d_LW_law_371 : decode code 371 = .ok (.invokevirtual 104, 3) := by decide +kernel
theorem d_LW_law_374 : decode code 374 = .ok (.iload 5, 2) := by decide +kernel
theorem d_LW_law_376 : decode code 376 = .ok (.if_icmp .eq 5, 3) := by decide +kernel
theorem d_LW_law_379 : decode code 379 = .ok (.iconst 0, 1) := by decide +kernel
theorem d_LW_law_381 : decode code 381 = .ok (.goto 1142, 3) := by decide +kernel
theorem d_LW_law_384 : decode code 384 = .ok (.aload_n 1, 1) := by decide +kernel
theorem d_LW_law_385 : decode code 385 = .ok (.aload_n 0, 1) := by decide +kernel
theorem d_LW_law_386 : decode code 386 = .ok (.iload 4, 2) := by decide +kernel
theorem d_LW_law_388 : decode code 388 = .ok (.iconst 1, 1) := by decide +kernel
theorem d_LW_law_389 : decode code 389 = .ok (.iadd, 1) := by decide +kernel
theorem d_LW_law_390 : decode code 390 = .ok (.iaload, 1) := by decide +kernel
theorem d_LW_law_391 : decode code 391 = .ok (.aload_n 0, 1) := by decide +kernel
theorem d_LW_law_392 : decode code 392 = .ok (.iload 4, 2) := by decide +kernel
theorem d_LW_law_394 : decode code 394 = .ok (.iconst 2, 1) := by decide +kernel
theorem d_LW_law_395 : decode code 395 = .ok (.iadd, 1) := by decide +kernel
theorem d_LW_law_396 : decode code 396 = .ok (.iaload, 1) := by decide +kernel
theorem d_LW_law_397 : decode code 397 = .ok (.aload_n 0, 1) := by decide +kernel
theorem d_LW_law_398 : decode code 398 = .ok (.iload 4, 2) := by decide +kernel
theorem d_LW_law_400 : decode code 400 = .ok (.iconst 3, 1) := by decide +kernel
theorem d_LW_law_401 : decode code 401 = .ok (.iadd, 1) := by decide +kernel
theorem d_LW_law_402 : decode code 402 = .ok (.iaload, 1) := by decide +kernel
theorem d_LW_law_403 : decode code 403 = .ok (.invokestatic 119, 3) := by decide +kernel
theorem d_LW_law_406 : decode code 406 = .ok (.istore 5, 2) := by decide +kernel
theorem d_LW_law_408 : decode code 408 = .ok (.aload_n 2, 1) := by decide +kernel
theorem d_LW_law_409 : decode code 409 = .ok (.aload_n 0, 1) := by decide +kernel
theorem d_LW_law_410 : decode code 410 = .ok (.iload 4, 2) := by decide +kernel
theorem d_LW_law_412 : decode code 412 = .ok (.iconst 1, 1) := by decide +kernel
theorem d_LW_law_413 : decode code 413 = .ok (.iadd, 1) := by decide +kernel
theorem d_LW_law_414 : decode code 414 = .ok (.iaload, 1) := by decide +kernel
theorem d_LW_law_415 : decode code 415 = .ok (.aload_n 0, 1) := by decide +kernel
theorem d_LW_law_416 : decode code 416 = .ok (.iload 4, 2) := by decide +kernel
theorem d_LW_law_418 : decode code 418 = .ok (.iconst 2, 1) := by decide +kernel
theorem d_LW_law_419 : decode code 419 = .ok (.iadd, 1) := by decide +kernel
theorem d_LW_law_420 : decode code 420 = .ok (.iaload, 1) := by decide +kernel
theorem d_LW_law_421 : decode code 421 = .ok (.aload_n 0, 1) := by decide +kernel
theorem d_LW_law_422 : decode code 422 = .ok (.iload 4, 2) := by decide +kernel
theorem d_LW_law_424 : decode code 424 = .ok (.iconst 3, 1) := by decide +kernel
theorem d_LW_law_425 : decode code 425 = .ok (.iadd, 1) := by decide +kernel
theorem d_LW_law_426 : decode code 426 = .ok (.iaload, 1) := by decide +kernel
theorem d_LW_law_427 : decode code 427 = .ok (.invokevirtual 121, 3) := by decide +kernel
theorem d_LW_law_430 : decode code 430 = .ok (.aload_n 2, 1) := by decide +kernel
theorem d_LW_law_431 : decode code 431 = .ok (.invokevirtual 104, 3) := by decide +kernel
theorem d_LW_law_434 : decode code 434 = .ok (.iload 5, 2) := by decide +kernel
theorem d_LW_law_436 : decode code 436 = .ok (.if_icmp .eq 5, 3) := by decide +kernel
theorem d_LW_law_439 : decode code 439 = .ok (.iconst 0, 1) := by decide +kernel
theorem d_LW_law_441 : decode code 441 = .ok (.goto 1082, 3) := by decide +kernel
theorem d_LW_law_444 : decode code 444 = .ok (.aload_n 1, 1) := by decide +kernel
theorem d_LW_law_445 : decode code 445 = .ok (.aload_n 0, 1) := by decide +kernel
theorem d_LW_law_446 : decode code 446 = .ok (.iload 4, 2) := by decide +kernel
theorem d_LW_law_448 : decode code 448 = .ok (.iconst 1, 1) := by decide +kernel
theorem d_LW_law_449 : decode code 449 = .ok (.iadd, 1) := by decide +kernel
theorem d_LW_law_450 : decode code 450 = .ok (.iaload, 1) := by decide +kernel
theorem d_LW_law_451 : decode code 451 = .ok (.aload_n 0, 1) := by decide +kernel
theorem d_LW_law_452 : decode code 452 = .ok (.iload 4, 2) := by decide +kernel
theorem d_LW_law_454 : decode code 454 = .ok (.iconst 2, 1) := by decide +kernel
theorem d_LW_law_455 : decode code 455 = .ok (.iadd, 1) := by decide +kernel
theorem d_LW_law_456 : decode code 456 = .ok (.iaload, 1) := by decide +kernel
theorem d_LW_law_457 : decode code 457 = .ok (.aload_n 0, 1) := by decide +kernel
theorem d_LW_law_458 : decode code 458 = .ok (.iload 4, 2) := by decide +kernel
theorem d_LW_law_460 : decode code 460 = .ok (.iconst 3, 1) := by decide +kernel
theorem d_LW_law_461 : decode code 461 = .ok (.iadd, 1) := by decide +kernel
theorem d_LW_law_462 : decode code 462 = .ok (.iaload, 1) := by decide +kernel
theorem d_LW_law_463 : decode code 463 = .ok (.i2l, 1) := by decide +kernel
theorem d_LW_law_464 : decode code 464 = .ok (.bipush 32, 2) := by decide +kernel
theorem d_LW_law_466 : decode code 466 = .ok (.lshl, 1) := by decide +kernel
theorem d_LW_law_467 : decode code 467 = .ok (.aload_n 0, 1) := by decide +kernel
theorem d_LW_law_468 : decode code 468 = .ok (.iload 4, 2) := by decide +kernel
theorem d_LW_law_470 : decode code 470 = .ok (.iconst 4, 1) := by decide +kernel
theorem d_LW_law_471 : decode code 471 = .ok (.iadd, 1) := by decide +kernel
theorem d_LW_law_472 : decode code 472 = .ok (.iaload, 1) := by decide +kernel
theorem d_LW_law_473 : decode code 473 = .ok (.i2l, 1) := by decide +kernel
theorem d_LW_law_474 : decode code 474 = .ok (.ldc2_w 96, 3) := by decide +kernel
theorem d_LW_law_477 : decode code 477 = .ok (.land, 1) := by decide +kernel
theorem d_LW_law_478 : decode code 478 = .ok (.lor, 1) := by decide +kernel
theorem d_LW_law_479 : decode code 479 = .ok (.invokestatic 122, 3) := by decide +kernel
theorem d_LW_law_482 : decode code 482 = .ok (.istore 5, 2) := by decide +kernel
theorem d_LW_law_484 : decode code 484 = .ok (.aload_n 2, 1) := by decide +kernel
theorem d_LW_law_485 : decode code 485 = .ok (.aload_n 0, 1) := by decide +kernel
theorem d_LW_law_486 : decode code 486 = .ok (.iload 4, 2) := by decide +kernel
theorem d_LW_law_488 : decode code 488 = .ok (.iconst 1, 1) := by decide +kernel
theorem d_LW_law_489 : decode code 489 = .ok (.iadd, 1) := by decide +kernel
theorem d_LW_law_490 : decode code 490 = .ok (.iaload, 1) := by decide +kernel
theorem d_LW_law_491 : decode code 491 = .ok (.aload_n 0, 1) := by decide +kernel
theorem d_LW_law_492 : decode code 492 = .ok (.iload 4, 2) := by decide +kernel
theorem d_LW_law_494 : decode code 494 = .ok (.iconst 2, 1) := by decide +kernel
theorem d_LW_law_495 : decode code 495 = .ok (.iadd, 1) := by decide +kernel
theorem d_LW_law_496 : decode code 496 = .ok (.iaload, 1) := by decide +kernel
theorem d_LW_law_497 : decode code 497 = .ok (.aload_n 0, 1) := by decide +kernel
theorem d_LW_law_498 : decode code 498 = .ok (.iload 4, 2) := by decide +kernel
theorem d_LW_law_500 : decode code 500 = .ok (.iconst 3, 1) := by decide +kernel
theorem d_LW_law_501 : decode code 501 = .ok (.iadd, 1) := by decide +kernel
theorem d_LW_law_502 : decode code 502 = .ok (.iaload, 1) := by decide +kernel
theorem d_LW_law_503 : decode code 503 = .ok (.i2l, 1) := by decide +kernel
theorem d_LW_law_504 : decode code 504 = .ok (.bipush 32, 2) := by decide +kernel
theorem d_LW_law_506 : decode code 506 = .ok (.lshl, 1) := by decide +kernel
theorem d_LW_law_507 : decode code 507 = .ok (.aload_n 0, 1) := by decide +kernel
theorem d_LW_law_508 : decode code 508 = .ok (.iload 4, 2) := by decide +kernel
theorem d_LW_law_510 : decode code 510 = .ok (.iconst 4, 1) := by decide +kernel
theorem d_LW_law_511 : decode code 511 = .ok (.iadd, 1) := by decide +kernel
theorem d_LW_law_512 : decode code 512 = .ok (.iaload, 1) := by decide +kernel
theorem d_LW_law_513 : decode code 513 = .ok (.i2l, 1) := by decide +kernel
theorem d_LW_law_514 : decode code 514 = .ok (.ldc2_w 96, 3) := by decide +kernel
theorem d_LW_law_517 : decode code 517 = .ok (.land, 1) := by decide +kernel
theorem d_LW_law_518 : decode code 518 = .ok (.lor, 1) := by decide +kernel
theorem d_LW_law_519 : decode code 519 = .ok (.invokevirtual 125, 3) := by decide +kernel
theorem d_LW_law_522 : decode code 522 = .ok (.aload_n 2, 1) := by decide +kernel
theorem d_LW_law_523 : decode code 523 = .ok (.invokevirtual 104, 3) := by decide +kernel
theorem d_LW_law_526 : decode code 526 = .ok (.iload 5, 2) := by decide +kernel
theorem d_LW_law_528 : decode code 528 = .ok (.if_icmp .eq 5, 3) := by decide +kernel
theorem d_LW_law_531 : decode code 531 = .ok (.iconst 0, 1) := by decide +kernel
theorem d_LW_law_533 : decode code 533 = .ok (.goto 990, 3) := by decide +kernel
theorem d_LW_law_536 : decode code 536 = .ok (.aload_n 1, 1) := by decide +kernel
theorem d_LW_law_537 : decode code 537 = .ok (.aload_n 0, 1) := by decide +kernel
theorem d_LW_law_538 : decode code 538 = .ok (.iload 4, 2) := by decide +kernel
theorem d_LW_law_540 : decode code 540 = .ok (.iconst 1, 1) := by decide +kernel
theorem d_LW_law_541 : decode code 541 = .ok (.iadd, 1) := by decide +kernel
theorem d_LW_law_542 : decode code 542 = .ok (.iaload, 1) := by decide +kernel
theorem d_LW_law_543 : decode code 543 = .ok (.aload_n 0, 1) := by decide +kernel
theorem d_LW_law_544 : decode code 544 = .ok (.iload 4, 2) := by decide +kernel
theorem d_LW_law_546 : decode code 546 = .ok (.iconst 2, 1) := by decide +kernel
theorem d_LW_law_547 : decode code 547 = .ok (.iadd, 1) := by decide +kernel
theorem d_LW_law_548 : decode code 548 = .ok (.iaload, 1) := by decide +kernel
theorem d_LW_law_549 : decode code 549 = .ok (.aload_n 0, 1) := by decide +kernel
theorem d_LW_law_550 : decode code 550 = .ok (.iload 4, 2) := by decide +kernel
theorem d_LW_law_552 : decode code 552 = .ok (.iconst 3, 1) := by decide +kernel
theorem d_LW_law_553 : decode code 553 = .ok (.iadd, 1) := by decide +kernel
theorem d_LW_law_554 : decode code 554 = .ok (.iaload, 1) := by decide +kernel
theorem d_LW_law_555 : decode code 555 = .ok (.invokestatic 126, 3) := by decide +kernel
theorem d_LW_law_558 : decode code 558 = .ok (.istore 5, 2) := by decide +kernel
theorem d_LW_law_560 : decode code 560 = .ok (.aload_n 2, 1) := by decide +kernel
theorem d_LW_law_561 : decode code 561 = .ok (.aload_n 0, 1) := by decide +kernel
theorem d_LW_law_562 : decode code 562 = .ok (.iload 4, 2) := by decide +kernel

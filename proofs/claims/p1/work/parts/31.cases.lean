theorem dL_law_0 : decode code 0 = .ok (.new 7, 3) := by decide +kernel
theorem dL_law_3 : decode code 3 = .ok (.dup, 1) := by decide +kernel
theorem dL_law_4 : decode code 4 = .ok (.invokespecial 9, 3) := by decide +kernel
theorem dL_law_7 : decode code 7 = .ok (.astore_n 1, 1) := by decide +kernel
theorem dL_law_8 : decode code 8 = .ok (.new 10, 3) := by decide +kernel
theorem dL_law_11 : decode code 11 = .ok (.dup, 1) := by decide +kernel
theorem dL_law_12 : decode code 12 = .ok (.invokespecial 12, 3) := by decide +kernel
theorem dL_law_15 : decode code 15 = .ok (.astore_n 2, 1) := by decide +kernel
theorem dL_law_16 : decode code 16 = .ok (.iconst 0, 1) := by decide +kernel
theorem dL_law_17 : decode code 17 = .ok (.istore_n 3, 1) := by decide +kernel
theorem dL_law_18 : decode code 18 = .ok (.iload_n 3, 1) := by decide +kernel
theorem dL_law_19 : decode code 19 = .ok (.aload_n 0, 1) := by decide +kernel
theorem dL_law_20 : decode code 20 = .ok (.arraylength, 1) := by decide +kernel
theorem dL_law_21 : decode code 21 = .ok (.iconst 4, 1) := by decide +kernel
theorem dL_law_22 : decode code 22 = .ok (.isub, 1) := by decide +kernel
theorem dL_law_23 : decode code 23 = .ok (.if_icmp .gt 1013, 3) := by decide +kernel
theorem dL_law_26 : decode code 26 = .ok (.aload_n 0, 1) := by decide +kernel
theorem dL_law_27 : decode code 27 = .ok (.iload_n 3, 1) := by decide +kernel
theorem dL_law_28 : decode code 28 = .ok (.iaload, 1) := by decide +kernel
theorem dL_law_29 : decode code 29 = .ok (.bipush 31, 2) := by decide +kernel
theorem dL_law_31 : decode code 31 = .ok (.iand, 1) := by decide +kernel
theorem dL_law_32 : decode code 32 = .ok (.tableswitch 998 0 26 #[124, 157, 200, 223, 247, 280, 323, 366, 409, 442, 476, 499, 532, 575, 618, 651, 684, 717, 740, 783, 816, 859, 872, 905, 928, 951, 975], 124) := by decide +kernel
theorem dL_law_156 : decode code 156 = .ok (.aload_n 1, 1) := by decide +kernel
theorem dL_law_157 : decode code 157 = .ok (.aload_n 0, 1) := by decide +kernel
theorem dL_law_158 : decode code 158 = .ok (.iload_n 3, 1) := by decide +kernel
theorem dL_law_159 : decode code 159 = .ok (.iconst 1, 1) := by decide +kernel
theorem dL_law_160 : decode code 160 = .ok (.iadd, 1) := by decide +kernel
theorem dL_law_161 : decode code 161 = .ok (.iaload, 1) := by decide +kernel
theorem dL_law_162 : decode code 162 = .ok (.aload_n 0, 1) := by decide +kernel
theorem dL_law_163 : decode code 163 = .ok (.iload_n 3, 1) := by decide +kernel
theorem dL_law_164 : decode code 164 = .ok (.iconst 2, 1) := by decide +kernel
theorem dL_law_165 : decode code 165 = .ok (.iadd, 1) := by decide +kernel
theorem dL_law_166 : decode code 166 = .ok (.iaload, 1) := by decide +kernel
theorem dL_law_167 : decode code 167 = .ok (.invokevirtual 13, 3) := by decide +kernel
theorem dL_law_170 : decode code 170 = .ok (.aload_n 2, 1) := by decide +kernel
theorem dL_law_171 : decode code 171 = .ok (.aload_n 0, 1) := by decide +kernel
theorem dL_law_172 : decode code 172 = .ok (.iload_n 3, 1) := by decide +kernel
theorem dL_law_173 : decode code 173 = .ok (.iconst 1, 1) := by decide +kernel
theorem dL_law_174 : decode code 174 = .ok (.iadd, 1) := by decide +kernel
theorem dL_law_175 : decode code 175 = .ok (.iaload, 1) := by decide +kernel
theorem dL_law_176 : decode code 176 = .ok (.aload_n 0, 1) := by decide +kernel
theorem dL_law_177 : decode code 177 = .ok (.iload_n 3, 1) := by decide +kernel
theorem dL_law_178 : decode code 178 = .ok (.iconst 2, 1) := by decide +kernel
theorem dL_law_179 : decode code 179 = .ok (.iadd, 1) := by decide +kernel
theorem dL_law_180 : decode code 180 = .ok (.iaload, 1) := by decide +kernel
theorem dL_law_181 : decode code 181 = .ok (.invokevirtual 17, 3) := by decide +kernel
theorem dL_law_184 : decode code 184 = .ok (.if_icmp .eq 846, 3) := by decide +kernel
theorem dL_law_187 : decode code 187 = .ok (.iconst 0, 1) := by decide +kernel
theorem dL_law_188 : decode code 188 = .ok (.ireturn, 1) := by decide +kernel
theorem dL_law_189 : decode code 189 = .ok (.aload_n 1, 1) := by decide +kernel
theorem dL_law_190 : decode code 190 = .ok (.aload_n 0, 1) := by decide +kernel
theorem dL_law_191 : decode code 191 = .ok (.iload_n 3, 1) := by decide +kernel
theorem dL_law_192 : decode code 192 = .ok (.iconst 1, 1) := by decide +kernel
theorem dL_law_193 : decode code 193 = .ok (.iadd, 1) := by decide +kernel
theorem dL_law_194 : decode code 194 = .ok (.iaload, 1) := by decide +kernel
theorem dL_law_195 : decode code 195 = .ok (.aload_n 0, 1) := by decide +kernel
theorem dL_law_196 : decode code 196 = .ok (.iload_n 3, 1) := by decide +kernel
theorem dL_law_197 : decode code 197 = .ok (.iconst 2, 1) := by decide +kernel
theorem dL_law_198 : decode code 198 = .ok (.iadd, 1) := by decide +kernel
theorem dL_law_199 : decode code 199 = .ok (.iaload, 1) := by decide +kernel
theorem dL_law_200 : decode code 200 = .ok (.aload_n 0, 1) := by decide +kernel
theorem dL_law_201 : decode code 201 = .ok (.iload_n 3, 1) := by decide +kernel
theorem dL_law_202 : decode code 202 = .ok (.iconst 3, 1) := by decide +kernel
theorem dL_law_203 : decode code 203 = .ok (.iadd, 1) := by decide +kernel
theorem dL_law_204 : decode code 204 = .ok (.iaload, 1) := by decide +kernel
theorem dL_law_205 : decode code 205 = .ok (.invokevirtual 18, 3) := by decide +kernel
theorem dL_law_208 : decode code 208 = .ok (.aload_n 2, 1) := by decide +kernel
theorem dL_law_209 : decode code 209 = .ok (.aload_n 0, 1) := by decide +kernel
theorem dL_law_210 : decode code 210 = .ok (.iload_n 3, 1) := by decide +kernel
theorem dL_law_211 : decode code 211 = .ok (.iconst 1, 1) := by decide +kernel
theorem dL_law_212 : decode code 212 = .ok (.iadd, 1) := by decide +kernel
theorem dL_law_213 : decode code 213 = .ok (.iaload, 1) := by decide +kernel
theorem dL_law_214 : decode code 214 = .ok (.aload_n 0, 1) := by decide +kernel
theorem dL_law_215 : decode code 215 = .ok (.iload_n 3, 1) := by decide +kernel
theorem dL_law_216 : decode code 216 = .ok (.iconst 2, 1) := by decide +kernel
theorem dL_law_217 : decode code 217 = .ok (.iadd, 1) := by decide +kernel
theorem dL_law_218 : decode code 218 = .ok (.iaload, 1) := by decide +kernel
theorem dL_law_219 : decode code 219 = .ok (.aload_n 0, 1) := by decide +kernel
theorem dL_law_220 : decode code 220 = .ok (.iload_n 3, 1) := by decide +kernel
theorem dL_law_221 : decode code 221 = .ok (.iconst 3, 1) := by decide +kernel
theorem dL_law_222 : decode code 222 = .ok (.iadd, 1) := by decide +kernel
theorem dL_law_223 : decode code 223 = .ok (.iaload, 1) := by decide +kernel
theorem dL_law_224 : decode code 224 = .ok (.invokevirtual 22, 3) := by decide +kernel
theorem dL_law_227 : decode code 227 = .ok (.if_icmp .eq 803, 3) := by decide +kernel
theorem dL_law_230 : decode code 230 = .ok (.iconst 0, 1) := by decide +kernel
theorem dL_law_231 : decode code 231 = .ok (.ireturn, 1) := by decide +kernel
theorem dL_law_232 : decode code 232 = .ok (.aload_n 1, 1) := by decide +kernel
theorem dL_law_233 : decode code 233 = .ok (.aload_n 0, 1) := by decide +kernel
theorem dL_law_234 : decode code 234 = .ok (.iload_n 3, 1) := by decide +kernel
theorem dL_law_235 : decode code 235 = .ok (.iconst 1, 1) := by decide +kernel
theorem dL_law_236 : decode code 236 = .ok (.iadd, 1) := by decide +kernel
theorem dL_law_237 : decode code 237 = .ok (.iaload, 1) := by decide +kernel
theorem dL_law_238 : decode code 238 = .ok (.invokevirtual 23, 3) := by decide +kernel
theorem dL_law_241 : decode code 241 = .ok (.aload_n 2, 1) := by decide +kernel
theorem dL_law_242 : decode code 242 = .ok (.aload_n 0, 1) := by decide +kernel
theorem dL_law_243 : decode code 243 = .ok (.iload_n 3, 1) := by decide +kernel
theorem dL_law_244 : decode code 244 = .ok (.iconst 1, 1) := by decide +kernel
theorem dL_law_245 : decode code 245 = .ok (.iadd, 1) := by decide +kernel
theorem dL_law_246 : decode code 246 = .ok (.iaload, 1) := by decide +kernel
theorem dL_law_247 : decode code 247 = .ok (.invokevirtual 27, 3) := by decide +kernel
theorem dL_law_250 : decode code 250 = .ok (.if_icmp .eq 780, 3) := by decide +kernel
theorem dL_law_253 : decode code 253 = .ok (.iconst 0, 1) := by decide +kernel
theorem dL_law_254 : decode code 254 = .ok (.ireturn, 1) := by decide +kernel
theorem dL_law_255 : decode code 255 = .ok (.aload_n 1, 1) := by decide +kernel
theorem dL_law_256 : decode code 256 = .ok (.aload_n 0, 1) := by decide +kernel
theorem dL_law_257 : decode code 257 = .ok (.iload_n 3, 1) := by decide +kernel
theorem dL_law_258 : decode code 258 = .ok (.iconst 1, 1) := by decide +kernel
theorem dL_law_259 : decode code 259 = .ok (.iadd, 1) := by decide +kernel
theorem dL_law_260 : decode code 260 = .ok (.iaload, 1) := by decide +kernel
theorem dL_law_261 : decode code 261 = .ok (.invokevirtual 28, 3) := by decide +kernel
theorem dL_law_264 : decode code 264 = .ok (.aload_n 2, 1) := by decide +kernel
theorem dL_law_265 : decode code 265 = .ok (.aload_n 0, 1) := by decide +kernel
theorem dL_law_266 : decode code 266 = .ok (.iload_n 3, 1) := by decide +kernel
theorem dL_law_267 : decode code 267 = .ok (.iconst 1, 1) := by decide +kernel
theorem dL_law_268 : decode code 268 = .ok (.iadd, 1) := by decide +kernel
theorem dL_law_269 : decode code 269 = .ok (.iaload, 1) := by decide +kernel
theorem dL_law_270 : decode code 270 = .ok (.invokevirtual 32, 3) := by decide +kernel
theorem dL_law_273 : decode code 273 = .ok (.lcmp, 1) := by decide +kernel
theorem dL_law_274 : decode code 274 = .ok (.ifCond .eq 756, 3) := by decide +kernel
theorem dL_law_277 : decode code 277 = .ok (.iconst 0, 1) := by decide +kernel
theorem dL_law_278 : decode code 278 = .ok (.ireturn, 1) := by decide +kernel
theorem dL_law_279 : decode code 279 = .ok (.aload_n 1, 1) := by decide +kernel
theorem dL_law_280 : decode code 280 = .ok (.aload_n 0, 1) := by decide +kernel
theorem dL_law_281 : decode code 281 = .ok (.iload_n 3, 1) := by decide +kernel
theorem dL_law_282 : decode code 282 = .ok (.iconst 1, 1) := by decide +kernel
theorem dL_law_283 : decode code 283 = .ok (.iadd, 1) := by decide +kernel
theorem dL_law_284 : decode code 284 = .ok (.iaload, 1) := by decide +kernel
theorem dL_law_285 : decode code 285 = .ok (.aload_n 0, 1) := by decide +kernel
theorem dL_law_286 : decode code 286 = .ok (.iload_n 3, 1) := by decide +kernel
theorem dL_law_287 : decode code 287 = .ok (.iconst 2, 1) := by decide +kernel
theorem dL_law_288 : decode code 288 = .ok (.iadd, 1) := by decide +kernel
theorem dL_law_289 : decode code 289 = .ok (.iaload, 1) := by decide +kernel
theorem dL_law_290 : decode code 290 = .ok (.invokevirtual 33, 3) := by decide +kernel
theorem dL_law_293 : decode code 293 = .ok (.aload_n 2, 1) := by decide +kernel
theorem dL_law_294 : decode code 294 = .ok (.aload_n 0, 1) := by decide +kernel
theorem dL_law_295 : decode code 295 = .ok (.iload_n 3, 1) := by decide +kernel
theorem dL_law_296 : decode code 296 = .ok (.iconst 1, 1) := by decide +kernel
theorem dL_law_297 : decode code 297 = .ok (.iadd, 1) := by decide +kernel
theorem dL_law_298 : decode code 298 = .ok (.iaload, 1) := by decide +kernel
theorem dL_law_299 : decode code 299 = .ok (.aload_n 0, 1) := by decide +kernel
theorem dL_law_300 : decode code 300 = .ok (.iload_n 3, 1) := by decide +kernel
theorem dL_law_301 : decode code 301 = .ok (.iconst 2, 1) := by decide +kernel
theorem dL_law_302 : decode code 302 = .ok (.iadd, 1) := by decide +kernel
theorem dL_law_303 : decode code 303 = .ok (.iaload, 1) := by decide +kernel
theorem dL_law_304 : decode code 304 = .ok (.invokevirtual 36, 3) := by decide +kernel
theorem dL_law_307 : decode code 307 = .ok (.if_icmp .eq 723, 3) := by decide +kernel
theorem dL_law_310 : decode code 310 = .ok (.iconst 0, 1) := by decide +kernel
theorem dL_law_311 : decode code 311 = .ok (.ireturn, 1) := by decide +kernel
theorem dL_law_312 : decode code 312 = .ok (.aload_n 1, 1) := by decide +kernel
theorem dL_law_313 : decode code 313 = .ok (.aload_n 0, 1) := by decide +kernel
theorem dL_law_314 : decode code 314 = .ok (.iload_n 3, 1) := by decide +kernel
theorem dL_law_315 : decode code 315 = .ok (.iconst 1, 1) := by decide +kernel
theorem dL_law_316 : decode code 316 = .ok (.iadd, 1) := by decide +kernel
theorem dL_law_317 : decode code 317 = .ok (.iaload, 1) := by decide +kernel
theorem dL_law_318 : decode code 318 = .ok (.aload_n 0, 1) := by decide +kernel
theorem dL_law_319 : decode code 319 = .ok (.iload_n 3, 1) := by decide +kernel
theorem dL_law_320 : decode code 320 = .ok (.iconst 2, 1) := by decide +kernel
theorem dL_law_321 : decode code 321 = .ok (.iadd, 1) := by decide +kernel
theorem dL_law_322 : decode code 322 = .ok (.iaload, 1) := by decide +kernel
theorem dL_law_323 : decode code 323 = .ok (.aload_n 0, 1) := by decide +kernel
theorem dL_law_324 : decode code 324 = .ok (.iload_n 3, 1) := by decide +kernel
theorem dL_law_325 : decode code 325 = .ok (.iconst 3, 1) := by decide +kernel
theorem dL_law_326 : decode code 326 = .ok (.iadd, 1) := by decide +kernel
theorem dL_law_327 : decode code 327 = .ok (.iaload, 1) := by decide +kernel
theorem dL_law_328 : decode code 328 = .ok (.invokevirtual 37, 3) := by decide +kernel
theorem dL_law_331 : decode code 331 = .ok (.aload_n 2, 1) := by decide +kernel
theorem dL_law_332 : decode code 332 = .ok (.aload_n 0, 1) := by decide +kernel
theorem dL_law_333 : decode code 333 = .ok (.iload_n 3, 1) := by decide +kernel
theorem dL_law_334 : decode code 334 = .ok (.iconst 1, 1) := by decide +kernel
theorem dL_law_335 : decode code 335 = .ok (.iadd, 1) := by decide +kernel
theorem dL_law_336 : decode code 336 = .ok (.iaload, 1) := by decide +kernel
theorem dL_law_337 : decode code 337 = .ok (.aload_n 0, 1) := by decide +kernel
theorem dL_law_338 : decode code 338 = .ok (.iload_n 3, 1) := by decide +kernel
theorem dL_law_339 : decode code 339 = .ok (.iconst 2, 1) := by decide +kernel
theorem dL_law_340 : decode code 340 = .ok (.iadd, 1) := by decide +kernel
theorem dL_law_341 : decode code 341 = .ok (.iaload, 1) := by decide +kernel
theorem dL_law_342 : decode code 342 = .ok (.aload_n 0, 1) := by decide +kernel
theorem dL_law_343 : decode code 343 = .ok (.iload_n 3, 1) := by decide +kernel
theorem dL_law_344 : decode code 344 = .ok (.iconst 3, 1) := by decide +kernel
theorem dL_law_345 : decode code 345 = .ok (.iadd, 1) := by decide +kernel
theorem dL_law_346 : decode code 346 = .ok (.iaload, 1) := by decide +kernel
theorem dL_law_347 : decode code 347 = .ok (.invokevirtual 40, 3) := by decide +kernel
theorem dL_law_350 : decode code 350 = .ok (.if_icmp .eq 680, 3) := by decide +kernel
theorem dL_law_353 : decode code 353 = .ok (.iconst 0, 1) := by decide +kernel
theorem dL_law_354 : decode code 354 = .ok (.ireturn, 1) := by decide +kernel
theorem dL_law_355 : decode code 355 = .ok (.aload_n 1, 1) := by decide +kernel
theorem dL_law_356 : decode code 356 = .ok (.aload_n 0, 1) := by decide +kernel
theorem dL_law_357 : decode code 357 = .ok (.iload_n 3, 1) := by decide +kernel
theorem dL_law_358 : decode code 358 = .ok (.iconst 1, 1) := by decide +kernel
theorem dL_law_359 : decode code 359 = .ok (.iadd, 1) := by decide +kernel
theorem dL_law_360 : decode code 360 = .ok (.iaload, 1) := by decide +kernel
theorem dL_law_361 : decode code 361 = .ok (.aload_n 0, 1) := by decide +kernel
theorem dL_law_362 : decode code 362 = .ok (.iload_n 3, 1) := by decide +kernel
theorem dL_law_363 : decode code 363 = .ok (.iconst 2, 1) := by decide +kernel
theorem dL_law_364 : decode code 364 = .ok (.iadd, 1) := by decide +kernel
theorem dL_law_365 : decode code 365 = .ok (.iaload, 1) := by decide +kernel
theorem dL_law_366 : decode code 366 = .ok (.aload_n 0, 1) := by decide +kernel
theorem dL_law_367 : decode code 367 = .ok (.iload_n 3, 1) := by decide +kernel
theorem dL_law_368 : decode code 368 = .ok (.iconst 3, 1) := by decide +kernel
theorem dL_law_369 : decode code 369 = .ok (.iadd, 1) := by decide +kernel
theorem dL_law_370 : decode code 370 = .ok (.iaload, 1) := by decide +kernel
theorem dL_law_371 : decode code 371 = .ok (.invokevirtual 41, 3) := by decide +kernel
theorem dL_law_374 : decode code 374 = .ok (.aload_n 2, 1) := by decide +kernel
theorem dL_law_375 : decode code 375 = .ok (.aload_n 0, 1) := by decide +kernel
theorem dL_law_376 : decode code 376 = .ok (.iload_n 3, 1) := by decide +kernel
theorem dL_law_377 : decode code 377 = .ok (.iconst 1, 1) := by decide +kernel
theorem dL_law_378 : decode code 378 = .ok (.iadd, 1) := by decide +kernel
theorem dL_law_379 : decode code 379 = .ok (.iaload, 1) := by decide +kernel
theorem dL_law_380 : decode code 380 = .ok (.aload_n 0, 1) := by decide +kernel
theorem dL_law_381 : decode code 381 = .ok (.iload_n 3, 1) := by decide +kernel
theorem dL_law_382 : decode code 382 = .ok (.iconst 2, 1) := by decide +kernel
theorem dL_law_383 : decode code 383 = .ok (.iadd, 1) := by decide +kernel
theorem dL_law_384 : decode code 384 = .ok (.iaload, 1) := by decide +kernel
theorem dL_law_385 : decode code 385 = .ok (.aload_n 0, 1) := by decide +kernel
theorem dL_law_386 : decode code 386 = .ok (.iload_n 3, 1) := by decide +kernel
theorem dL_law_387 : decode code 387 = .ok (.iconst 3, 1) := by decide +kernel
theorem dL_law_388 : decode code 388 = .ok (.iadd, 1) := by decide +kernel
theorem dL_law_389 : decode code 389 = .ok (.iaload, 1) := by decide +kernel
theorem dL_law_390 : decode code 390 = .ok (.invokevirtual 44, 3) := by decide +kernel
theorem dL_law_393 : decode code 393 = .ok (.if_icmp .eq 637, 3) := by decide +kernel
theorem dL_law_396 : decode code 396 = .ok (.iconst 0, 1) := by decide +kernel
theorem dL_law_397 : decode code 397 = .ok (.ireturn, 1) := by decide +kernel
theorem dL_law_398 : decode code 398 = .ok (.aload_n 1, 1) := by decide +kernel
theorem dL_law_399 : decode code 399 = .ok (.aload_n 0, 1) := by decide +kernel
theorem dL_law_400 : decode code 400 = .ok (.iload_n 3, 1) := by decide +kernel
theorem dL_law_401 : decode code 401 = .ok (.iconst 1, 1) := by decide +kernel
theorem dL_law_402 : decode code 402 = .ok (.iadd, 1) := by decide +kernel
theorem dL_law_403 : decode code 403 = .ok (.iaload, 1) := by decide +kernel
theorem dL_law_404 : decode code 404 = .ok (.aload_n 0, 1) := by decide +kernel
theorem dL_law_405 : decode code 405 = .ok (.iload_n 3, 1) := by decide +kernel
theorem dL_law_406 : decode code 406 = .ok (.iconst 2, 1) := by decide +kernel
theorem dL_law_407 : decode code 407 = .ok (.iadd, 1) := by decide +kernel
theorem dL_law_408 : decode code 408 = .ok (.iaload, 1) := by decide +kernel
theorem dL_law_409 : decode code 409 = .ok (.aload_n 0, 1) := by decide +kernel
theorem dL_law_410 : decode code 410 = .ok (.iload_n 3, 1) := by decide +kernel
theorem dL_law_411 : decode code 411 = .ok (.iconst 3, 1) := by decide +kernel
theorem dL_law_412 : decode code 412 = .ok (.iadd, 1) := by decide +kernel
theorem dL_law_413 : decode code 413 = .ok (.iaload, 1) := by decide +kernel
theorem dL_law_414 : decode code 414 = .ok (.invokevirtual 45, 3) := by decide +kernel
theorem dL_law_417 : decode code 417 = .ok (.aload_n 2, 1) := by decide +kernel
theorem dL_law_418 : decode code 418 = .ok (.aload_n 0, 1) := by decide +kernel
theorem dL_law_419 : decode code 419 = .ok (.iload_n 3, 1) := by decide +kernel
theorem dL_law_420 : decode code 420 = .ok (.iconst 1, 1) := by decide +kernel
theorem dL_law_421 : decode code 421 = .ok (.iadd, 1) := by decide +kernel
theorem dL_law_422 : decode code 422 = .ok (.iaload, 1) := by decide +kernel
theorem dL_law_423 : decode code 423 = .ok (.aload_n 0, 1) := by decide +kernel
theorem dL_law_424 : decode code 424 = .ok (.iload_n 3, 1) := by decide +kernel
theorem dL_law_425 : decode code 425 = .ok (.iconst 2, 1) := by decide +kernel
theorem dL_law_426 : decode code 426 = .ok (.iadd, 1) := by decide +kernel
theorem dL_law_427 : decode code 427 = .ok (.iaload, 1) := by decide +kernel
theorem dL_law_428 : decode code 428 = .ok (.aload_n 0, 1) := by decide +kernel
theorem dL_law_429 : decode code 429 = .ok (.iload_n 3, 1) := by decide +kernel
theorem dL_law_430 : decode code 430 = .ok (.iconst 3, 1) := by decide +kernel
theorem dL_law_431 : decode code 431 = .ok (.iadd, 1) := by decide +kernel
theorem dL_law_432 : decode code 432 = .ok (.iaload, 1) := by decide +kernel
theorem dL_law_433 : decode code 433 = .ok (.invokevirtual 48, 3) := by decide +kernel
theorem dL_law_436 : decode code 436 = .ok (.if_icmp .eq 594, 3) := by decide +kernel
theorem dL_law_439 : decode code 439 = .ok (.iconst 0, 1) := by decide +kernel
theorem dL_law_440 : decode code 440 = .ok (.ireturn, 1) := by decide +kernel
theorem dL_law_441 : decode code 441 = .ok (.aload_n 1, 1) := by decide +kernel
theorem dL_law_442 : decode code 442 = .ok (.aload_n 0, 1) := by decide +kernel
theorem dL_law_443 : decode code 443 = .ok (.iload_n 3, 1) := by decide +kernel
theorem dL_law_444 : decode code 444 = .ok (.iconst 1, 1) := by decide +kernel
theorem dL_law_445 : decode code 445 = .ok (.iadd, 1) := by decide +kernel
theorem dL_law_446 : decode code 446 = .ok (.iaload, 1) := by decide +kernel
theorem dL_law_447 : decode code 447 = .ok (.aload_n 0, 1) := by decide +kernel
theorem dL_law_448 : decode code 448 = .ok (.iload_n 3, 1) := by decide +kernel
theorem dL_law_449 : decode code 449 = .ok (.iconst 2, 1) := by decide +kernel
theorem dL_law_450 : decode code 450 = .ok (.iadd, 1) := by decide +kernel
theorem dL_law_451 : decode code 451 = .ok (.iaload, 1) := by decide +kernel
theorem dL_law_452 : decode code 452 = .ok (.invokevirtual 49, 3) := by decide +kernel
theorem dL_law_455 : decode code 455 = .ok (.aload_n 2, 1) := by decide +kernel
theorem dL_law_456 : decode code 456 = .ok (.aload_n 0, 1) := by decide +kernel
theorem dL_law_457 : decode code 457 = .ok (.iload_n 3, 1) := by decide +kernel
theorem dL_law_458 : decode code 458 = .ok (.iconst 1, 1) := by decide +kernel
theorem dL_law_459 : decode code 459 = .ok (.iadd, 1) := by decide +kernel
theorem dL_law_460 : decode code 460 = .ok (.iaload, 1) := by decide +kernel
theorem dL_law_461 : decode code 461 = .ok (.aload_n 0, 1) := by decide +kernel
theorem dL_law_462 : decode code 462 = .ok (.iload_n 3, 1) := by decide +kernel
theorem dL_law_463 : decode code 463 = .ok (.iconst 2, 1) := by decide +kernel
theorem dL_law_464 : decode code 464 = .ok (.iadd, 1) := by decide +kernel
theorem dL_law_465 : decode code 465 = .ok (.iaload, 1) := by decide +kernel
theorem dL_law_466 : decode code 466 = .ok (.invokevirtual 52, 3) := by decide +kernel
theorem dL_law_469 : decode code 469 = .ok (.if_icmp .eq 561, 3) := by decide +kernel
theorem dL_law_472 : decode code 472 = .ok (.iconst 0, 1) := by decide +kernel
theorem dL_law_473 : decode code 473 = .ok (.ireturn, 1) := by decide +kernel
theorem dL_law_474 : decode code 474 = .ok (.aload_n 1, 1) := by decide +kernel
theorem dL_law_475 : decode code 475 = .ok (.aload_n 0, 1) := by decide +kernel
theorem dL_law_476 : decode code 476 = .ok (.iload_n 3, 1) := by decide +kernel
theorem dL_law_477 : decode code 477 = .ok (.iconst 1, 1) := by decide +kernel
theorem dL_law_478 : decode code 478 = .ok (.iadd, 1) := by decide +kernel
theorem dL_law_479 : decode code 479 = .ok (.iaload, 1) := by decide +kernel
theorem dL_law_480 : decode code 480 = .ok (.aload_n 0, 1) := by decide +kernel
theorem dL_law_481 : decode code 481 = .ok (.iload_n 3, 1) := by decide +kernel
theorem dL_law_482 : decode code 482 = .ok (.iconst 2, 1) := by decide +kernel
theorem dL_law_483 : decode code 483 = .ok (.iadd, 1) := by decide +kernel
theorem dL_law_484 : decode code 484 = .ok (.iaload, 1) := by decide +kernel
theorem dL_law_485 : decode code 485 = .ok (.invokevirtual 53, 3) := by decide +kernel
theorem dL_law_488 : decode code 488 = .ok (.aload_n 2, 1) := by decide +kernel
theorem dL_law_489 : decode code 489 = .ok (.aload_n 0, 1) := by decide +kernel
theorem dL_law_490 : decode code 490 = .ok (.iload_n 3, 1) := by decide +kernel
theorem dL_law_491 : decode code 491 = .ok (.iconst 1, 1) := by decide +kernel
theorem dL_law_492 : decode code 492 = .ok (.iadd, 1) := by decide +kernel
theorem dL_law_493 : decode code 493 = .ok (.iaload, 1) := by decide +kernel
theorem dL_law_494 : decode code 494 = .ok (.aload_n 0, 1) := by decide +kernel
theorem dL_law_495 : decode code 495 = .ok (.iload_n 3, 1) := by decide +kernel
theorem dL_law_496 : decode code 496 = .ok (.iconst 2, 1) := by decide +kernel
theorem dL_law_497 : decode code 497 = .ok (.iadd, 1) := by decide +kernel
theorem dL_law_498 : decode code 498 = .ok (.iaload, 1) := by decide +kernel
theorem dL_law_499 : decode code 499 = .ok (.invokevirtual 57, 3) := by decide +kernel
theorem dL_law_502 : decode code 502 = .ok (.lcmp, 1) := by decide +kernel
theorem dL_law_503 : decode code 503 = .ok (.ifCond .eq 527, 3) := by decide +kernel
theorem dL_law_506 : decode code 506 = .ok (.iconst 0, 1) := by decide +kernel
theorem dL_law_507 : decode code 507 = .ok (.ireturn, 1) := by decide +kernel
theorem dL_law_508 : decode code 508 = .ok (.aload_n 1, 1) := by decide +kernel
theorem dL_law_509 : decode code 509 = .ok (.aload_n 0, 1) := by decide +kernel
theorem dL_law_510 : decode code 510 = .ok (.iload_n 3, 1) := by decide +kernel
theorem dL_law_511 : decode code 511 = .ok (.iconst 1, 1) := by decide +kernel
theorem dL_law_512 : decode code 512 = .ok (.iadd, 1) := by decide +kernel
theorem dL_law_513 : decode code 513 = .ok (.iaload, 1) := by decide +kernel
theorem dL_law_514 : decode code 514 = .ok (.invokevirtual 58, 3) := by decide +kernel
theorem dL_law_517 : decode code 517 = .ok (.aload_n 2, 1) := by decide +kernel
theorem dL_law_518 : decode code 518 = .ok (.aload_n 0, 1) := by decide +kernel
theorem dL_law_519 : decode code 519 = .ok (.iload_n 3, 1) := by decide +kernel
theorem dL_law_520 : decode code 520 = .ok (.iconst 1, 1) := by decide +kernel
theorem dL_law_521 : decode code 521 = .ok (.iadd, 1) := by decide +kernel
theorem dL_law_522 : decode code 522 = .ok (.iaload, 1) := by decide +kernel
theorem dL_law_523 : decode code 523 = .ok (.invokevirtual 61, 3) := by decide +kernel
theorem dL_law_526 : decode code 526 = .ok (.if_icmp .eq 504, 3) := by decide +kernel
theorem dL_law_529 : decode code 529 = .ok (.iconst 0, 1) := by decide +kernel
theorem dL_law_530 : decode code 530 = .ok (.ireturn, 1) := by decide +kernel
theorem dL_law_531 : decode code 531 = .ok (.aload_n 1, 1) := by decide +kernel
theorem dL_law_532 : decode code 532 = .ok (.aload_n 0, 1) := by decide +kernel
theorem dL_law_533 : decode code 533 = .ok (.iload_n 3, 1) := by decide +kernel
theorem dL_law_534 : decode code 534 = .ok (.iconst 1, 1) := by decide +kernel
theorem dL_law_535 : decode code 535 = .ok (.iadd, 1) := by decide +kernel
theorem dL_law_536 : decode code 536 = .ok (.iaload, 1) := by decide +kernel
theorem dL_law_537 : decode code 537 = .ok (.aload_n 0, 1) := by decide +kernel
theorem dL_law_538 : decode code 538 = .ok (.iload_n 3, 1) := by decide +kernel
theorem dL_law_539 : decode code 539 = .ok (.iconst 2, 1) := by decide +kernel
theorem dL_law_540 : decode code 540 = .ok (.iadd, 1) := by decide +kernel
theorem dL_law_541 : decode code 541 = .ok (.iaload, 1) := by decide +kernel
theorem dL_law_542 : decode code 542 = .ok (.invokevirtual 62, 3) := by decide +kernel
theorem dL_law_545 : decode code 545 = .ok (.aload_n 2, 1) := by decide +kernel
theorem dL_law_546 : decode code 546 = .ok (.aload_n 0, 1) := by decide +kernel
theorem dL_law_547 : decode code 547 = .ok (.iload_n 3, 1) := by decide +kernel
theorem dL_law_548 : decode code 548 = .ok (.iconst 1, 1) := by decide +kernel
theorem dL_law_549 : decode code 549 = .ok (.iadd, 1) := by decide +kernel
theorem dL_law_550 : decode code 550 = .ok (.iaload, 1) := by decide +kernel
theorem dL_law_551 : decode code 551 = .ok (.aload_n 0, 1) := by decide +kernel
theorem dL_law_552 : decode code 552 = .ok (.iload_n 3, 1) := by decide +kernel
theorem dL_law_553 : decode code 553 = .ok (.iconst 2, 1) := by decide +kernel
theorem dL_law_554 : decode code 554 = .ok (.iadd, 1) := by decide +kernel
theorem dL_law_555 : decode code 555 = .ok (.iaload, 1) := by decide +kernel
theorem dL_law_556 : decode code 556 = .ok (.invokevirtual 65, 3) := by decide +kernel
theorem dL_law_559 : decode code 559 = .ok (.if_icmp .eq 471, 3) := by decide +kernel
theorem dL_law_562 : decode code 562 = .ok (.iconst 0, 1) := by decide +kernel
theorem dL_law_563 : decode code 563 = .ok (.ireturn, 1) := by decide +kernel
theorem dL_law_564 : decode code 564 = .ok (.aload_n 1, 1) := by decide +kernel
theorem dL_law_565 : decode code 565 = .ok (.aload_n 0, 1) := by decide +kernel
theorem dL_law_566 : decode code 566 = .ok (.iload_n 3, 1) := by decide +kernel
theorem dL_law_567 : decode code 567 = .ok (.iconst 1, 1) := by decide +kernel
theorem dL_law_568 : decode code 568 = .ok (.iadd, 1) := by decide +kernel
theorem dL_law_569 : decode code 569 = .ok (.iaload, 1) := by decide +kernel
theorem dL_law_570 : decode code 570 = .ok (.aload_n 0, 1) := by decide +kernel
theorem dL_law_571 : decode code 571 = .ok (.iload_n 3, 1) := by decide +kernel
theorem dL_law_572 : decode code 572 = .ok (.iconst 2, 1) := by decide +kernel
theorem dL_law_573 : decode code 573 = .ok (.iadd, 1) := by decide +kernel
theorem dL_law_574 : decode code 574 = .ok (.iaload, 1) := by decide +kernel
theorem dL_law_575 : decode code 575 = .ok (.aload_n 0, 1) := by decide +kernel
theorem dL_law_576 : decode code 576 = .ok (.iload_n 3, 1) := by decide +kernel
theorem dL_law_577 : decode code 577 = .ok (.iconst 3, 1) := by decide +kernel
theorem dL_law_578 : decode code 578 = .ok (.iadd, 1) := by decide +kernel
theorem dL_law_579 : decode code 579 = .ok (.iaload, 1) := by decide +kernel
theorem dL_law_580 : decode code 580 = .ok (.invokevirtual 66, 3) := by decide +kernel
theorem dL_law_583 : decode code 583 = .ok (.aload_n 2, 1) := by decide +kernel
theorem dL_law_584 : decode code 584 = .ok (.aload_n 0, 1) := by decide +kernel
theorem dL_law_585 : decode code 585 = .ok (.iload_n 3, 1) := by decide +kernel
theorem dL_law_586 : decode code 586 = .ok (.iconst 1, 1) := by decide +kernel
theorem dL_law_587 : decode code 587 = .ok (.iadd, 1) := by decide +kernel
theorem dL_law_588 : decode code 588 = .ok (.iaload, 1) := by decide +kernel
theorem dL_law_589 : decode code 589 = .ok (.aload_n 0, 1) := by decide +kernel
theorem dL_law_590 : decode code 590 = .ok (.iload_n 3, 1) := by decide +kernel
theorem dL_law_591 : decode code 591 = .ok (.iconst 2, 1) := by decide +kernel
theorem dL_law_592 : decode code 592 = .ok (.iadd, 1) := by decide +kernel
theorem dL_law_593 : decode code 593 = .ok (.iaload, 1) := by decide +kernel
theorem dL_law_594 : decode code 594 = .ok (.aload_n 0, 1) := by decide +kernel
theorem dL_law_595 : decode code 595 = .ok (.iload_n 3, 1) := by decide +kernel
theorem dL_law_596 : decode code 596 = .ok (.iconst 3, 1) := by decide +kernel
theorem dL_law_597 : decode code 597 = .ok (.iadd, 1) := by decide +kernel
theorem dL_law_598 : decode code 598 = .ok (.iaload, 1) := by decide +kernel
theorem dL_law_599 : decode code 599 = .ok (.invokevirtual 69, 3) := by decide +kernel
theorem dL_law_602 : decode code 602 = .ok (.if_icmp .eq 428, 3) := by decide +kernel
theorem dL_law_605 : decode code 605 = .ok (.iconst 0, 1) := by decide +kernel
theorem dL_law_606 : decode code 606 = .ok (.ireturn, 1) := by decide +kernel
theorem dL_law_607 : decode code 607 = .ok (.aload_n 1, 1) := by decide +kernel
theorem dL_law_608 : decode code 608 = .ok (.aload_n 0, 1) := by decide +kernel
theorem dL_law_609 : decode code 609 = .ok (.iload_n 3, 1) := by decide +kernel
theorem dL_law_610 : decode code 610 = .ok (.iconst 1, 1) := by decide +kernel
theorem dL_law_611 : decode code 611 = .ok (.iadd, 1) := by decide +kernel
theorem dL_law_612 : decode code 612 = .ok (.iaload, 1) := by decide +kernel
theorem dL_law_613 : decode code 613 = .ok (.aload_n 0, 1) := by decide +kernel
theorem dL_law_614 : decode code 614 = .ok (.iload_n 3, 1) := by decide +kernel
theorem dL_law_615 : decode code 615 = .ok (.iconst 2, 1) := by decide +kernel
theorem dL_law_616 : decode code 616 = .ok (.iadd, 1) := by decide +kernel
theorem dL_law_617 : decode code 617 = .ok (.iaload, 1) := by decide +kernel
theorem dL_law_618 : decode code 618 = .ok (.aload_n 0, 1) := by decide +kernel
theorem dL_law_619 : decode code 619 = .ok (.iload_n 3, 1) := by decide +kernel
theorem dL_law_620 : decode code 620 = .ok (.iconst 3, 1) := by decide +kernel
theorem dL_law_621 : decode code 621 = .ok (.iadd, 1) := by decide +kernel
theorem dL_law_622 : decode code 622 = .ok (.iaload, 1) := by decide +kernel
theorem dL_law_623 : decode code 623 = .ok (.invokevirtual 70, 3) := by decide +kernel
theorem dL_law_626 : decode code 626 = .ok (.aload_n 2, 1) := by decide +kernel
theorem dL_law_627 : decode code 627 = .ok (.aload_n 0, 1) := by decide +kernel
theorem dL_law_628 : decode code 628 = .ok (.iload_n 3, 1) := by decide +kernel
theorem dL_law_629 : decode code 629 = .ok (.iconst 1, 1) := by decide +kernel
theorem dL_law_630 : decode code 630 = .ok (.iadd, 1) := by decide +kernel
theorem dL_law_631 : decode code 631 = .ok (.iaload, 1) := by decide +kernel
theorem dL_law_632 : decode code 632 = .ok (.aload_n 0, 1) := by decide +kernel
theorem dL_law_633 : decode code 633 = .ok (.iload_n 3, 1) := by decide +kernel
theorem dL_law_634 : decode code 634 = .ok (.iconst 2, 1) := by decide +kernel
theorem dL_law_635 : decode code 635 = .ok (.iadd, 1) := by decide +kernel
theorem dL_law_636 : decode code 636 = .ok (.iaload, 1) := by decide +kernel
theorem dL_law_637 : decode code 637 = .ok (.aload_n 0, 1) := by decide +kernel
theorem dL_law_638 : decode code 638 = .ok (.iload_n 3, 1) := by decide +kernel
theorem dL_law_639 : decode code 639 = .ok (.iconst 3, 1) := by decide +kernel
theorem dL_law_640 : decode code 640 = .ok (.iadd, 1) := by decide +kernel
theorem dL_law_641 : decode code 641 = .ok (.iaload, 1) := by decide +kernel
theorem dL_law_642 : decode code 642 = .ok (.invokevirtual 73, 3) := by decide +kernel
theorem dL_law_645 : decode code 645 = .ok (.if_icmp .eq 385, 3) := by decide +kernel
theorem dL_law_648 : decode code 648 = .ok (.iconst 0, 1) := by decide +kernel
theorem dL_law_649 : decode code 649 = .ok (.ireturn, 1) := by decide +kernel
theorem dL_law_650 : decode code 650 = .ok (.aload_n 1, 1) := by decide +kernel
theorem dL_law_651 : decode code 651 = .ok (.aload_n 0, 1) := by decide +kernel
theorem dL_law_652 : decode code 652 = .ok (.iload_n 3, 1) := by decide +kernel
theorem dL_law_653 : decode code 653 = .ok (.iconst 1, 1) := by decide +kernel
theorem dL_law_654 : decode code 654 = .ok (.iadd, 1) := by decide +kernel
theorem dL_law_655 : decode code 655 = .ok (.iaload, 1) := by decide +kernel
theorem dL_law_656 : decode code 656 = .ok (.aload_n 0, 1) := by decide +kernel
theorem dL_law_657 : decode code 657 = .ok (.iload_n 3, 1) := by decide +kernel
theorem dL_law_658 : decode code 658 = .ok (.iconst 2, 1) := by decide +kernel
theorem dL_law_659 : decode code 659 = .ok (.iadd, 1) := by decide +kernel
theorem dL_law_660 : decode code 660 = .ok (.iaload, 1) := by decide +kernel
theorem dL_law_661 : decode code 661 = .ok (.invokevirtual 74, 3) := by decide +kernel
theorem dL_law_664 : decode code 664 = .ok (.aload_n 2, 1) := by decide +kernel
theorem dL_law_665 : decode code 665 = .ok (.aload_n 0, 1) := by decide +kernel
theorem dL_law_666 : decode code 666 = .ok (.iload_n 3, 1) := by decide +kernel
theorem dL_law_667 : decode code 667 = .ok (.iconst 1, 1) := by decide +kernel
theorem dL_law_668 : decode code 668 = .ok (.iadd, 1) := by decide +kernel
theorem dL_law_669 : decode code 669 = .ok (.iaload, 1) := by decide +kernel
theorem dL_law_670 : decode code 670 = .ok (.aload_n 0, 1) := by decide +kernel
theorem dL_law_671 : decode code 671 = .ok (.iload_n 3, 1) := by decide +kernel
theorem dL_law_672 : decode code 672 = .ok (.iconst 2, 1) := by decide +kernel
theorem dL_law_673 : decode code 673 = .ok (.iadd, 1) := by decide +kernel
theorem dL_law_674 : decode code 674 = .ok (.iaload, 1) := by decide +kernel
theorem dL_law_675 : decode code 675 = .ok (.invokevirtual 77, 3) := by decide +kernel
theorem dL_law_678 : decode code 678 = .ok (.if_icmp .eq 352, 3) := by decide +kernel
theorem dL_law_681 : decode code 681 = .ok (.iconst 0, 1) := by decide +kernel
theorem dL_law_682 : decode code 682 = .ok (.ireturn, 1) := by decide +kernel
theorem dL_law_683 : decode code 683 = .ok (.aload_n 1, 1) := by decide +kernel
theorem dL_law_684 : decode code 684 = .ok (.aload_n 0, 1) := by decide +kernel
theorem dL_law_685 : decode code 685 = .ok (.iload_n 3, 1) := by decide +kernel
theorem dL_law_686 : decode code 686 = .ok (.iconst 1, 1) := by decide +kernel
theorem dL_law_687 : decode code 687 = .ok (.iadd, 1) := by decide +kernel
theorem dL_law_688 : decode code 688 = .ok (.iaload, 1) := by decide +kernel
theorem dL_law_689 : decode code 689 = .ok (.aload_n 0, 1) := by decide +kernel
theorem dL_law_690 : decode code 690 = .ok (.iload_n 3, 1) := by decide +kernel
theorem dL_law_691 : decode code 691 = .ok (.iconst 2, 1) := by decide +kernel
theorem dL_law_692 : decode code 692 = .ok (.iadd, 1) := by decide +kernel
theorem dL_law_693 : decode code 693 = .ok (.iaload, 1) := by decide +kernel
theorem dL_law_694 : decode code 694 = .ok (.invokevirtual 78, 3) := by decide +kernel
theorem dL_law_697 : decode code 697 = .ok (.aload_n 2, 1) := by decide +kernel
theorem dL_law_698 : decode code 698 = .ok (.aload_n 0, 1) := by decide +kernel
theorem dL_law_699 : decode code 699 = .ok (.iload_n 3, 1) := by decide +kernel
theorem dL_law_700 : decode code 700 = .ok (.iconst 1, 1) := by decide +kernel
theorem dL_law_701 : decode code 701 = .ok (.iadd, 1) := by decide +kernel
theorem dL_law_702 : decode code 702 = .ok (.iaload, 1) := by decide +kernel
theorem dL_law_703 : decode code 703 = .ok (.aload_n 0, 1) := by decide +kernel
theorem dL_law_704 : decode code 704 = .ok (.iload_n 3, 1) := by decide +kernel
theorem dL_law_705 : decode code 705 = .ok (.iconst 2, 1) := by decide +kernel
theorem dL_law_706 : decode code 706 = .ok (.iadd, 1) := by decide +kernel
theorem dL_law_707 : decode code 707 = .ok (.iaload, 1) := by decide +kernel
theorem dL_law_708 : decode code 708 = .ok (.invokevirtual 81, 3) := by decide +kernel
theorem dL_law_711 : decode code 711 = .ok (.if_icmp .eq 319, 3) := by decide +kernel
theorem dL_law_714 : decode code 714 = .ok (.iconst 0, 1) := by decide +kernel
theorem dL_law_715 : decode code 715 = .ok (.ireturn, 1) := by decide +kernel
theorem dL_law_716 : decode code 716 = .ok (.aload_n 1, 1) := by decide +kernel
theorem dL_law_717 : decode code 717 = .ok (.aload_n 0, 1) := by decide +kernel
theorem dL_law_718 : decode code 718 = .ok (.iload_n 3, 1) := by decide +kernel
theorem dL_law_719 : decode code 719 = .ok (.iconst 1, 1) := by decide +kernel
theorem dL_law_720 : decode code 720 = .ok (.iadd, 1) := by decide +kernel
theorem dL_law_721 : decode code 721 = .ok (.iaload, 1) := by decide +kernel
theorem dL_law_722 : decode code 722 = .ok (.aload_n 0, 1) := by decide +kernel
theorem dL_law_723 : decode code 723 = .ok (.iload_n 3, 1) := by decide +kernel
theorem dL_law_724 : decode code 724 = .ok (.iconst 2, 1) := by decide +kernel
theorem dL_law_725 : decode code 725 = .ok (.iadd, 1) := by decide +kernel
theorem dL_law_726 : decode code 726 = .ok (.iaload, 1) := by decide +kernel
theorem dL_law_727 : decode code 727 = .ok (.invokevirtual 82, 3) := by decide +kernel
theorem dL_law_730 : decode code 730 = .ok (.aload_n 2, 1) := by decide +kernel
theorem dL_law_731 : decode code 731 = .ok (.aload_n 0, 1) := by decide +kernel
theorem dL_law_732 : decode code 732 = .ok (.iload_n 3, 1) := by decide +kernel
theorem dL_law_733 : decode code 733 = .ok (.iconst 1, 1) := by decide +kernel
theorem dL_law_734 : decode code 734 = .ok (.iadd, 1) := by decide +kernel
theorem dL_law_735 : decode code 735 = .ok (.iaload, 1) := by decide +kernel
theorem dL_law_736 : decode code 736 = .ok (.aload_n 0, 1) := by decide +kernel
theorem dL_law_737 : decode code 737 = .ok (.iload_n 3, 1) := by decide +kernel
theorem dL_law_738 : decode code 738 = .ok (.iconst 2, 1) := by decide +kernel
theorem dL_law_739 : decode code 739 = .ok (.iadd, 1) := by decide +kernel
theorem dL_law_740 : decode code 740 = .ok (.iaload, 1) := by decide +kernel
theorem dL_law_741 : decode code 741 = .ok (.invokevirtual 85, 3) := by decide +kernel
theorem dL_law_744 : decode code 744 = .ok (.if_icmp .eq 286, 3) := by decide +kernel
theorem dL_law_747 : decode code 747 = .ok (.iconst 0, 1) := by decide +kernel
theorem dL_law_748 : decode code 748 = .ok (.ireturn, 1) := by decide +kernel
theorem dL_law_749 : decode code 749 = .ok (.aload_n 1, 1) := by decide +kernel
theorem dL_law_750 : decode code 750 = .ok (.aload_n 0, 1) := by decide +kernel
theorem dL_law_751 : decode code 751 = .ok (.iload_n 3, 1) := by decide +kernel
theorem dL_law_752 : decode code 752 = .ok (.iconst 1, 1) := by decide +kernel
theorem dL_law_753 : decode code 753 = .ok (.iadd, 1) := by decide +kernel
theorem dL_law_754 : decode code 754 = .ok (.iaload, 1) := by decide +kernel
theorem dL_law_755 : decode code 755 = .ok (.invokevirtual 86, 3) := by decide +kernel
theorem dL_law_758 : decode code 758 = .ok (.aload_n 2, 1) := by decide +kernel
theorem dL_law_759 : decode code 759 = .ok (.aload_n 0, 1) := by decide +kernel
theorem dL_law_760 : decode code 760 = .ok (.iload_n 3, 1) := by decide +kernel
theorem dL_law_761 : decode code 761 = .ok (.iconst 1, 1) := by decide +kernel
theorem dL_law_762 : decode code 762 = .ok (.iadd, 1) := by decide +kernel
theorem dL_law_763 : decode code 763 = .ok (.iaload, 1) := by decide +kernel
theorem dL_law_764 : decode code 764 = .ok (.invokevirtual 89, 3) := by decide +kernel
theorem dL_law_767 : decode code 767 = .ok (.if_icmp .eq 263, 3) := by decide +kernel
theorem dL_law_770 : decode code 770 = .ok (.iconst 0, 1) := by decide +kernel
theorem dL_law_771 : decode code 771 = .ok (.ireturn, 1) := by decide +kernel
theorem dL_law_772 : decode code 772 = .ok (.aload_n 1, 1) := by decide +kernel
theorem dL_law_773 : decode code 773 = .ok (.aload_n 0, 1) := by decide +kernel
theorem dL_law_774 : decode code 774 = .ok (.iload_n 3, 1) := by decide +kernel
theorem dL_law_775 : decode code 775 = .ok (.iconst 1, 1) := by decide +kernel
theorem dL_law_776 : decode code 776 = .ok (.iadd, 1) := by decide +kernel
theorem dL_law_777 : decode code 777 = .ok (.iaload, 1) := by decide +kernel
theorem dL_law_778 : decode code 778 = .ok (.aload_n 0, 1) := by decide +kernel
theorem dL_law_779 : decode code 779 = .ok (.iload_n 3, 1) := by decide +kernel
theorem dL_law_780 : decode code 780 = .ok (.iconst 2, 1) := by decide +kernel
theorem dL_law_781 : decode code 781 = .ok (.iadd, 1) := by decide +kernel
theorem dL_law_782 : decode code 782 = .ok (.iaload, 1) := by decide +kernel
theorem dL_law_783 : decode code 783 = .ok (.aload_n 0, 1) := by decide +kernel
theorem dL_law_784 : decode code 784 = .ok (.iload_n 3, 1) := by decide +kernel
theorem dL_law_785 : decode code 785 = .ok (.iconst 3, 1) := by decide +kernel
theorem dL_law_786 : decode code 786 = .ok (.iadd, 1) := by decide +kernel
theorem dL_law_787 : decode code 787 = .ok (.iaload, 1) := by decide +kernel
theorem dL_law_788 : decode code 788 = .ok (.invokevirtual 90, 3) := by decide +kernel
theorem dL_law_791 : decode code 791 = .ok (.aload_n 2, 1) := by decide +kernel
theorem dL_law_792 : decode code 792 = .ok (.aload_n 0, 1) := by decide +kernel
theorem dL_law_793 : decode code 793 = .ok (.iload_n 3, 1) := by decide +kernel
theorem dL_law_794 : decode code 794 = .ok (.iconst 1, 1) := by decide +kernel
theorem dL_law_795 : decode code 795 = .ok (.iadd, 1) := by decide +kernel
theorem dL_law_796 : decode code 796 = .ok (.iaload, 1) := by decide +kernel
theorem dL_law_797 : decode code 797 = .ok (.aload_n 0, 1) := by decide +kernel
theorem dL_law_798 : decode code 798 = .ok (.iload_n 3, 1) := by decide +kernel
theorem dL_law_799 : decode code 799 = .ok (.iconst 2, 1) := by decide +kernel
theorem dL_law_800 : decode code 800 = .ok (.iadd, 1) := by decide +kernel
theorem dL_law_801 : decode code 801 = .ok (.iaload, 1) := by decide +kernel
theorem dL_law_802 : decode code 802 = .ok (.aload_n 0, 1) := by decide +kernel
theorem dL_law_803 : decode code 803 = .ok (.iload_n 3, 1) := by decide +kernel
theorem dL_law_804 : decode code 804 = .ok (.iconst 3, 1) := by decide +kernel
theorem dL_law_805 : decode code 805 = .ok (.iadd, 1) := by decide +kernel
theorem dL_law_806 : decode code 806 = .ok (.iaload, 1) := by decide +kernel
theorem dL_law_807 : decode code 807 = .ok (.invokevirtual 93, 3) := by decide +kernel
theorem dL_law_810 : decode code 810 = .ok (.if_icmp .eq 220, 3) := by decide +kernel
theorem dL_law_813 : decode code 813 = .ok (.iconst 0, 1) := by decide +kernel
theorem dL_law_814 : decode code 814 = .ok (.ireturn, 1) := by decide +kernel
theorem dL_law_815 : decode code 815 = .ok (.aload_n 1, 1) := by decide +kernel
theorem dL_law_816 : decode code 816 = .ok (.aload_n 0, 1) := by decide +kernel
theorem dL_law_817 : decode code 817 = .ok (.iload_n 3, 1) := by decide +kernel
theorem dL_law_818 : decode code 818 = .ok (.iconst 1, 1) := by decide +kernel
theorem dL_law_819 : decode code 819 = .ok (.iadd, 1) := by decide +kernel
theorem dL_law_820 : decode code 820 = .ok (.iaload, 1) := by decide +kernel
theorem dL_law_821 : decode code 821 = .ok (.aload_n 0, 1) := by decide +kernel
theorem dL_law_822 : decode code 822 = .ok (.iload_n 3, 1) := by decide +kernel
theorem dL_law_823 : decode code 823 = .ok (.iconst 2, 1) := by decide +kernel
theorem dL_law_824 : decode code 824 = .ok (.iadd, 1) := by decide +kernel
theorem dL_law_825 : decode code 825 = .ok (.iaload, 1) := by decide +kernel
theorem dL_law_826 : decode code 826 = .ok (.invokevirtual 94, 3) := by decide +kernel
theorem dL_law_829 : decode code 829 = .ok (.aload_n 2, 1) := by decide +kernel
theorem dL_law_830 : decode code 830 = .ok (.aload_n 0, 1) := by decide +kernel
theorem dL_law_831 : decode code 831 = .ok (.iload_n 3, 1) := by decide +kernel
theorem dL_law_832 : decode code 832 = .ok (.iconst 1, 1) := by decide +kernel
theorem dL_law_833 : decode code 833 = .ok (.iadd, 1) := by decide +kernel
theorem dL_law_834 : decode code 834 = .ok (.iaload, 1) := by decide +kernel
theorem dL_law_835 : decode code 835 = .ok (.aload_n 0, 1) := by decide +kernel
theorem dL_law_836 : decode code 836 = .ok (.iload_n 3, 1) := by decide +kernel
theorem dL_law_837 : decode code 837 = .ok (.iconst 2, 1) := by decide +kernel
theorem dL_law_838 : decode code 838 = .ok (.iadd, 1) := by decide +kernel
theorem dL_law_839 : decode code 839 = .ok (.iaload, 1) := by decide +kernel
theorem dL_law_840 : decode code 840 = .ok (.invokevirtual 97, 3) := by decide +kernel
theorem dL_law_843 : decode code 843 = .ok (.if_icmp .eq 187, 3) := by decide +kernel
theorem dL_law_846 : decode code 846 = .ok (.iconst 0, 1) := by decide +kernel
theorem dL_law_847 : decode code 847 = .ok (.ireturn, 1) := by decide +kernel
theorem dL_law_848 : decode code 848 = .ok (.aload_n 1, 1) := by decide +kernel
theorem dL_law_849 : decode code 849 = .ok (.aload_n 0, 1) := by decide +kernel
theorem dL_law_850 : decode code 850 = .ok (.iload_n 3, 1) := by decide +kernel
theorem dL_law_851 : decode code 851 = .ok (.iconst 1, 1) := by decide +kernel
theorem dL_law_852 : decode code 852 = .ok (.iadd, 1) := by decide +kernel
theorem dL_law_853 : decode code 853 = .ok (.iaload, 1) := by decide +kernel
theorem dL_law_854 : decode code 854 = .ok (.aload_n 0, 1) := by decide +kernel
theorem dL_law_855 : decode code 855 = .ok (.iload_n 3, 1) := by decide +kernel
theorem dL_law_856 : decode code 856 = .ok (.iconst 2, 1) := by decide +kernel
theorem dL_law_857 : decode code 857 = .ok (.iadd, 1) := by decide +kernel
theorem dL_law_858 : decode code 858 = .ok (.iaload, 1) := by decide +kernel
theorem dL_law_859 : decode code 859 = .ok (.aload_n 0, 1) := by decide +kernel
theorem dL_law_860 : decode code 860 = .ok (.iload_n 3, 1) := by decide +kernel
theorem dL_law_861 : decode code 861 = .ok (.iconst 3, 1) := by decide +kernel
theorem dL_law_862 : decode code 862 = .ok (.iadd, 1) := by decide +kernel
theorem dL_law_863 : decode code 863 = .ok (.iaload, 1) := by decide +kernel
theorem dL_law_864 : decode code 864 = .ok (.invokevirtual 98, 3) := by decide +kernel
theorem dL_law_867 : decode code 867 = .ok (.aload_n 2, 1) := by decide +kernel
theorem dL_law_868 : decode code 868 = .ok (.aload_n 0, 1) := by decide +kernel
theorem dL_law_869 : decode code 869 = .ok (.iload_n 3, 1) := by decide +kernel
theorem dL_law_870 : decode code 870 = .ok (.iconst 1, 1) := by decide +kernel
theorem dL_law_871 : decode code 871 = .ok (.iadd, 1) := by decide +kernel
theorem dL_law_872 : decode code 872 = .ok (.iaload, 1) := by decide +kernel
theorem dL_law_873 : decode code 873 = .ok (.aload_n 0, 1) := by decide +kernel
theorem dL_law_874 : decode code 874 = .ok (.iload_n 3, 1) := by decide +kernel
theorem dL_law_875 : decode code 875 = .ok (.iconst 2, 1) := by decide +kernel
theorem dL_law_876 : decode code 876 = .ok (.iadd, 1) := by decide +kernel
theorem dL_law_877 : decode code 877 = .ok (.iaload, 1) := by decide +kernel
theorem dL_law_878 : decode code 878 = .ok (.aload_n 0, 1) := by decide +kernel
theorem dL_law_879 : decode code 879 = .ok (.iload_n 3, 1) := by decide +kernel
theorem dL_law_880 : decode code 880 = .ok (.iconst 3, 1) := by decide +kernel
theorem dL_law_881 : decode code 881 = .ok (.iadd, 1) := by decide +kernel
theorem dL_law_882 : decode code 882 = .ok (.iaload, 1) := by decide +kernel
theorem dL_law_883 : decode code 883 = .ok (.invokevirtual 101, 3) := by decide +kernel
theorem dL_law_886 : decode code 886 = .ok (.if_icmp .eq 144, 3) := by decide +kernel
theorem dL_law_889 : decode code 889 = .ok (.iconst 0, 1) := by decide +kernel
theorem dL_law_890 : decode code 890 = .ok (.ireturn, 1) := by decide +kernel
theorem dL_law_891 : decode code 891 = .ok (.aload_n 1, 1) := by decide +kernel
theorem dL_law_892 : decode code 892 = .ok (.invokevirtual 102, 3) := by decide +kernel
theorem dL_law_895 : decode code 895 = .ok (.aload_n 2, 1) := by decide +kernel
theorem dL_law_896 : decode code 896 = .ok (.invokevirtual 106, 3) := by decide +kernel
theorem dL_law_899 : decode code 899 = .ok (.if_icmp .eq 131, 3) := by decide +kernel
theorem dL_law_902 : decode code 902 = .ok (.iconst 0, 1) := by decide +kernel
theorem dL_law_903 : decode code 903 = .ok (.ireturn, 1) := by decide +kernel
theorem dL_law_904 : decode code 904 = .ok (.aload_n 1, 1) := by decide +kernel
theorem dL_law_905 : decode code 905 = .ok (.aload_n 0, 1) := by decide +kernel
theorem dL_law_906 : decode code 906 = .ok (.iload_n 3, 1) := by decide +kernel
theorem dL_law_907 : decode code 907 = .ok (.iconst 1, 1) := by decide +kernel
theorem dL_law_908 : decode code 908 = .ok (.iadd, 1) := by decide +kernel
theorem dL_law_909 : decode code 909 = .ok (.iaload, 1) := by decide +kernel
theorem dL_law_910 : decode code 910 = .ok (.aload_n 0, 1) := by decide +kernel
theorem dL_law_911 : decode code 911 = .ok (.iload_n 3, 1) := by decide +kernel
theorem dL_law_912 : decode code 912 = .ok (.iconst 2, 1) := by decide +kernel
theorem dL_law_913 : decode code 913 = .ok (.iadd, 1) := by decide +kernel
theorem dL_law_914 : decode code 914 = .ok (.iaload, 1) := by decide +kernel
theorem dL_law_915 : decode code 915 = .ok (.invokevirtual 107, 3) := by decide +kernel
theorem dL_law_918 : decode code 918 = .ok (.aload_n 2, 1) := by decide +kernel
theorem dL_law_919 : decode code 919 = .ok (.aload_n 0, 1) := by decide +kernel
theorem dL_law_920 : decode code 920 = .ok (.iload_n 3, 1) := by decide +kernel
theorem dL_law_921 : decode code 921 = .ok (.iconst 1, 1) := by decide +kernel
theorem dL_law_922 : decode code 922 = .ok (.iadd, 1) := by decide +kernel
theorem dL_law_923 : decode code 923 = .ok (.iaload, 1) := by decide +kernel
theorem dL_law_924 : decode code 924 = .ok (.aload_n 0, 1) := by decide +kernel
theorem dL_law_925 : decode code 925 = .ok (.iload_n 3, 1) := by decide +kernel
theorem dL_law_926 : decode code 926 = .ok (.iconst 2, 1) := by decide +kernel
theorem dL_law_927 : decode code 927 = .ok (.iadd, 1) := by decide +kernel
theorem dL_law_928 : decode code 928 = .ok (.iaload, 1) := by decide +kernel
theorem dL_law_929 : decode code 929 = .ok (.invokevirtual 110, 3) := by decide +kernel
theorem dL_law_932 : decode code 932 = .ok (.if_icmp .eq 98, 3) := by decide +kernel
theorem dL_law_935 : decode code 935 = .ok (.iconst 0, 1) := by decide +kernel
theorem dL_law_936 : decode code 936 = .ok (.ireturn, 1) := by decide +kernel
theorem dL_law_937 : decode code 937 = .ok (.aload_n 1, 1) := by decide +kernel
theorem dL_law_938 : decode code 938 = .ok (.aload_n 0, 1) := by decide +kernel
theorem dL_law_939 : decode code 939 = .ok (.iload_n 3, 1) := by decide +kernel
theorem dL_law_940 : decode code 940 = .ok (.iconst 1, 1) := by decide +kernel
theorem dL_law_941 : decode code 941 = .ok (.iadd, 1) := by decide +kernel
theorem dL_law_942 : decode code 942 = .ok (.iaload, 1) := by decide +kernel
theorem dL_law_943 : decode code 943 = .ok (.invokevirtual 111, 3) := by decide +kernel
theorem dL_law_946 : decode code 946 = .ok (.aload_n 2, 1) := by decide +kernel
theorem dL_law_947 : decode code 947 = .ok (.aload_n 0, 1) := by decide +kernel
theorem dL_law_948 : decode code 948 = .ok (.iload_n 3, 1) := by decide +kernel
theorem dL_law_949 : decode code 949 = .ok (.iconst 1, 1) := by decide +kernel
theorem dL_law_950 : decode code 950 = .ok (.iadd, 1) := by decide +kernel
theorem dL_law_951 : decode code 951 = .ok (.iaload, 1) := by decide +kernel
theorem dL_law_952 : decode code 952 = .ok (.invokevirtual 114, 3) := by decide +kernel
theorem dL_law_955 : decode code 955 = .ok (.if_icmp .eq 75, 3) := by decide +kernel
theorem dL_law_958 : decode code 958 = .ok (.iconst 0, 1) := by decide +kernel
theorem dL_law_959 : decode code 959 = .ok (.ireturn, 1) := by decide +kernel
theorem dL_law_960 : decode code 960 = .ok (.aload_n 1, 1) := by decide +kernel
theorem dL_law_961 : decode code 961 = .ok (.aload_n 0, 1) := by decide +kernel
theorem dL_law_962 : decode code 962 = .ok (.iload_n 3, 1) := by decide +kernel
theorem dL_law_963 : decode code 963 = .ok (.iconst 1, 1) := by decide +kernel
theorem dL_law_964 : decode code 964 = .ok (.iadd, 1) := by decide +kernel
theorem dL_law_965 : decode code 965 = .ok (.iaload, 1) := by decide +kernel
theorem dL_law_966 : decode code 966 = .ok (.invokevirtual 115, 3) := by decide +kernel
theorem dL_law_969 : decode code 969 = .ok (.aload_n 2, 1) := by decide +kernel
theorem dL_law_970 : decode code 970 = .ok (.aload_n 0, 1) := by decide +kernel
theorem dL_law_971 : decode code 971 = .ok (.iload_n 3, 1) := by decide +kernel
theorem dL_law_972 : decode code 972 = .ok (.iconst 1, 1) := by decide +kernel
theorem dL_law_973 : decode code 973 = .ok (.iadd, 1) := by decide +kernel
theorem dL_law_974 : decode code 974 = .ok (.iaload, 1) := by decide +kernel
theorem dL_law_975 : decode code 975 = .ok (.invokevirtual 118, 3) := by decide +kernel
theorem dL_law_978 : decode code 978 = .ok (.if_icmp .eq 52, 3) := by decide +kernel
theorem dL_law_981 : decode code 981 = .ok (.iconst 0, 1) := by decide +kernel
theorem dL_law_982 : decode code 982 = .ok (.ireturn, 1) := by decide +kernel
theorem dL_law_983 : decode code 983 = .ok (.aload_n 1, 1) := by decide +kernel
theorem dL_law_984 : decode code 984 = .ok (.aload_n 0, 1) := by decide +kernel
theorem dL_law_985 : decode code 985 = .ok (.iload_n 3, 1) := by decide +kernel
theorem dL_law_986 : decode code 986 = .ok (.iconst 1, 1) := by decide +kernel
theorem dL_law_987 : decode code 987 = .ok (.iadd, 1) := by decide +kernel
theorem dL_law_988 : decode code 988 = .ok (.iaload, 1) := by decide +kernel
theorem dL_law_989 : decode code 989 = .ok (.invokevirtual 119, 3) := by decide +kernel
theorem dL_law_992 : decode code 992 = .ok (.aload_n 2, 1) := by decide +kernel
theorem dL_law_993 : decode code 993 = .ok (.aload_n 0, 1) := by decide +kernel
theorem dL_law_994 : decode code 994 = .ok (.iload_n 3, 1) := by decide +kernel
theorem dL_law_995 : decode code 995 = .ok (.iconst 1, 1) := by decide +kernel
theorem dL_law_996 : decode code 996 = .ok (.iadd, 1) := by decide +kernel
theorem dL_law_997 : decode code 997 = .ok (.iaload, 1) := by decide +kernel
theorem dL_law_998 : decode code 998 = .ok (.invokevirtual 122, 3) := by decide +kernel
theorem dL_law_1001 : decode code 1001 = .ok (.lcmp, 1) := by decide +kernel
theorem dL_law_1002 : decode code 1002 = .ok (.ifCond .eq 28, 3) := by decide +kernel
theorem dL_law_1005 : decode code 1005 = .ok (.iconst 0, 1) := by decide +kernel
theorem dL_law_1006 : decode code 1006 = .ok (.ireturn, 1) := by decide +kernel
theorem dL_law_1007 : decode code 1007 = .ok (.aload_n 1, 1) := by decide +kernel
theorem dL_law_1008 : decode code 1008 = .ok (.aload_n 0, 1) := by decide +kernel
theorem dL_law_1009 : decode code 1009 = .ok (.iload_n 3, 1) := by decide +kernel
theorem dL_law_1010 : decode code 1010 = .ok (.iconst 1, 1) := by decide +kernel
theorem dL_law_1011 : decode code 1011 = .ok (.iadd, 1) := by decide +kernel
theorem dL_law_1012 : decode code 1012 = .ok (.iaload, 1) := by decide +kernel
theorem dL_law_1013 : decode code 1013 = .ok (.invokevirtual 123, 3) := by decide +kernel
theorem dL_law_1016 : decode code 1016 = .ok (.aload_n 2, 1) := by decide +kernel
theorem dL_law_1017 : decode code 1017 = .ok (.aload_n 0, 1) := by decide +kernel
theorem dL_law_1018 : decode code 1018 = .ok (.iload_n 3, 1) := by decide +kernel
theorem dL_law_1019 : decode code 1019 = .ok (.iconst 1, 1) := by decide +kernel
theorem dL_law_1020 : decode code 1020 = .ok (.iadd, 1) := by decide +kernel
theorem dL_law_1021 : decode code 1021 = .ok (.iaload, 1) := by decide +kernel
theorem dL_law_1022 : decode code 1022 = .ok (.invokevirtual 126, 3) := by decide +kernel
theorem dL_law_1025 : decode code 1025 = .ok (.if_icmp .eq 5, 3) := by decide +kernel
theorem dL_law_1028 : decode code 1028 = .ok (.iconst 0, 1) := by decide +kernel
theorem dL_law_1029 : decode code 1029 = .ok (.ireturn, 1) := by decide +kernel
theorem dL_law_1030 : decode code 1030 = .ok (.iinc 3 4, 3) := by decide +kernel
theorem dL_law_1033 : decode code 1033 = .ok (.goto (-1015), 3) := by decide +kernel
theorem dL_law_1036 : decode code 1036 = .ok (.iconst 1, 1) := by decide +kernel
theorem dL_law_1037 : decode code 1037 = .ok (.ireturn, 1) := by decide +kernel
def la_ans (lng : Bool) (r1 r2 : Option Value) : Prop := match lng with
  | true => ∃ v : Int64, r1 = some (.long v) ∧ r2 = some (.long v)
  | false => ∃ v : Int32, r1 = some (.int v) ∧ r2 = some (.int v)
/-- two calls answer alike, and what comes behind them has N -/
def la_two (E1 E2 : sa_E) (M1 : sa_M) (y1 : MethodName) (A1 : List Value) (M2 : sa_M) (y2 : MethodName) (A2 : List Value) (lng : Bool) (N : sa_I → sa_J → sa_I → sa_J → Prop) (I : sa_I) (J : sa_J) (I' : sa_I) (J' : sa_J) : Prop :=
  ∃ P1 P2 : sa_P, Con E1 M1 y1 A1 I J P1 ∧ Con E2 M2 y2 A2 I' J' P2 ∧ ∀ r1 I1 J1 r2 I2 J2, P1 r1 I1 J1 → P2 r2 I2 J2 → la_ans lng r1 r2 ∧ N I1 J1 I2 J2
theorem la_cat (r : Option Value) : ((r.toList ++ []).map fun (v : Value) => v.category).sum ≤ 8 := by
  cases r with
  | none => decide
  | some v => rcases lv_cat v with h | h <;> simp [h]
/-- what one call of the law's needs: the two methods answer alike, and N holds behind them -/
def la_Step (l : Launch) (D : va_G) (aI aL : ClassId) (ad ad' : Nat → Nat) (N : sa_I → sa_J → sa_I → sa_J → Prop) (k : Nat) (a1 a2 a3 : Int32) (I : sa_I) (J : sa_J) (I' : sa_I) (J' : sa_J) : Prop := match k with
  | 0 => la_two (EC l D aI aL ad) (ER l D aI aL ad') M_X6_square yX6_square [.ref (ad 0), .int a1, .int a2] M_X7_square yX7_square [.ref (ad' 0), .int a1, .int a2] false N I J I' J'
  | 1 => la_two (EC l D aI aL ad) (ER l D aI aL ad') M_X6_cube yX6_cube [.ref (ad 0), .int a1, .int a2, .int a3] M_X7_cube yX7_cube [.ref (ad' 0), .int a1, .int a2, .int a3] false N I J I' J'
  | 2 => la_two (EC l D aI aL ad) (ER l D aI aL ad') M_X6_field yX6_field [.ref (ad 0), .int a1] M_X7_field yX7_field [.ref (ad' 0), .int a1] false N I J I' J'
  | 3 => la_two (EC l D aI aL ad) (ER l D aI aL ad') M_X6_disc yX6_disc [.ref (ad 0), .int a1] M_X7_disc yX7_disc [.ref (ad' 0), .int a1] true N I J I' J'
  | 4 => la_two (EC l D aI aL ad) (ER l D aI aL ad') M_X6_basis yX6_basis [.ref (ad 0), .int a1, .int a2] M_X7_basis yX7_basis [.ref (ad' 0), .int a1, .int a2] false N I J I' J'
  | 5 => la_two (EC l D aI aL ad) (ER l D aI aL ad') M_X6_table yX6_table [.ref (ad 0), .int a1, .int a2, .int a3] M_X7_table yX7_table [.ref (ad' 0), .int a1, .int a2, .int a3] false N I J I' J'
  | 6 => la_two (EC l D aI aL ad) (ER l D aI aL ad') M_X6_element yX6_element [.ref (ad 0), .int a1, .int a2, .int a3] M_X7_element yX7_element [.ref (ad' 0), .int a1, .int a2, .int a3] false N I J I' J'
  | 7 => la_two (EC l D aI aL ad) (ER l D aI aL ad') M_X6_make yX6_make [.ref (ad 0), .int a1, .int a2, .int a3] M_X7_make yX7_make [.ref (ad' 0), .int a1, .int a2, .int a3] false N I J I' J'
  | 8 => la_two (EC l D aI aL ad) (ER l D aI aL ad') M_X6_coordinate yX6_coordinate [.ref (ad 0), .int a1, .int a2] M_X7_coordinate yX7_coordinate [.ref (ad' 0), .int a1, .int a2] false N I J I' J'
  | 9 => la_two (EC l D aI aL ad) (ER l D aI aL ad') M_X6_norm yX6_norm [.ref (ad 0), .int a1, .int a2] M_X7_norm yX7_norm [.ref (ad' 0), .int a1, .int a2] true N I J I' J'
  | 10 => la_two (EC l D aI aL ad) (ER l D aI aL ad') M_X6_unit yX6_unit [.ref (ad 0), .int a1] M_X7_unit yX7_unit [.ref (ad' 0), .int a1] false N I J I' J'
  | 11 => la_two (EC l D aI aL ad) (ER l D aI aL ad') M_X6_ideal yX6_ideal [.ref (ad 0), .int a1, .int a2] M_X7_ideal yX7_ideal [.ref (ad' 0), .int a1, .int a2] false N I J I' J'
  | 12 => la_two (EC l D aI aL ad) (ER l D aI aL ad') M_X6_join yX6_join [.ref (ad 0), .int a1, .int a2, .int a3] M_X7_join yX7_join [.ref (ad' 0), .int a1, .int a2, .int a3] false N I J I' J'
  | 13 => la_two (EC l D aI aL ad) (ER l D aI aL ad') M_X6_row yX6_row [.ref (ad 0), .int a1, .int a2, .int a3] M_X7_row yX7_row [.ref (ad' 0), .int a1, .int a2, .int a3] false N I J I' J'
  | 14 => la_two (EC l D aI aL ad) (ER l D aI aL ad') M_X6_idealOf yX6_idealOf [.ref (ad 0), .int a1, .int a2] M_X7_idealOf yX7_idealOf [.ref (ad' 0), .int a1, .int a2] false N I J I' J'
  | 15 => la_two (EC l D aI aL ad) (ER l D aI aL ad') M_X6_in yX6_in [.ref (ad 0), .int a1, .int a2] M_X7_in yX7_in [.ref (ad' 0), .int a1, .int a2] false N I J I' J'
  | 16 => la_two (EC l D aI aL ad) (ER l D aI aL ad') M_X6_divides yX6_divides [.ref (ad 0), .int a1, .int a2] M_X7_divides yX7_divides [.ref (ad' 0), .int a1, .int a2] false N I J I' J'
  | 17 => la_two (EC l D aI aL ad) (ER l D aI aL ad') M_X6_primes yX6_primes [.ref (ad 0), .int a1] M_X7_primes yX7_primes [.ref (ad' 0), .int a1] false N I J I' J'
  | 18 => la_two (EC l D aI aL ad) (ER l D aI aL ad') M_X6_prime yX6_prime [.ref (ad 0), .int a1, .int a2, .int a3] M_X7_prime yX7_prime [.ref (ad' 0), .int a1, .int a2, .int a3] false N I J I' J'
  | 19 => la_two (EC l D aI aL ad) (ER l D aI aL ad') M_X6_take yX6_take [.ref (ad 0), .int a1, .int a2] M_X7_take yX7_take [.ref (ad' 0), .int a1, .int a2] false N I J I' J'
  | 20 => la_two (EC l D aI aL ad) (ER l D aI aL ad') M_X6_times yX6_times [.ref (ad 0), .int a1, .int a2, .int a3] M_X7_times yX7_times [.ref (ad' 0), .int a1, .int a2, .int a3] false N I J I' J'
  | 21 => la_two (EC l D aI aL ad) (ER l D aI aL ad') M_X6_classes yX6_classes [.ref (ad 0)] M_X7_classes yX7_classes [.ref (ad' 0)] false N I J I' J'
  | 22 => la_two (EC l D aI aL ad) (ER l D aI aL ad') M_X6_form yX6_form [.ref (ad 0), .int a1, .int a2] M_X7_form yX7_form [.ref (ad' 0), .int a1, .int a2] false N I J I' J'
  | 23 => la_two (EC l D aI aL ad) (ER l D aI aL ad') M_X6_classOf yX6_classOf [.ref (ad 0), .int a1] M_X7_classOf yX7_classOf [.ref (ad' 0), .int a1] false N I J I' J'
  | 24 => la_two (EC l D aI aL ad) (ER l D aI aL ad') M_X6_order yX6_order [.ref (ad 0), .int a1] M_X7_order yX7_order [.ref (ad' 0), .int a1] false N I J I' J'
  | 25 => la_two (EC l D aI aL ad) (ER l D aI aL ad') M_X6_first yX6_first [.ref (ad 0), .int a1] M_X7_first yX7_first [.ref (ad' 0), .int a1] true N I J I' J'
  | 26 => la_two (EC l D aI aL ad) (ER l D aI aL ad') M_X6_count yX6_count [.ref (ad 0), .int a1] M_X7_count yX7_count [.ref (ad' 0), .int a1] false N I J I' J'
  | _ => N I J I' J'
theorem lc_0 {p : Program} {l : Launch} {e : Env} {s : State} {m : MethodId} {below : List Frame} {meth : Method} {c : Code} {b n : Nat} {xs : Nat → Int32} {D : va_G} {aI aL : ClassId} {ad ad' : Nat → Nat} {I : sa_I} {J : sa_J} {I' : sa_I} {J' : sa_J} {N : sa_I → sa_J → sa_I → sa_J → Prop} {i : Nat} (C : la_Cx p s m meth c b n xs D aI aL) (hi : i + 4 ≤ n) (hn : n < 2 ^ 31) (h : la_Step l D aI aL ad ad' N 0 (xs (i + 1)) (xs (i + 2)) (xs (i + 3)) I J I' J') (kk : ∀ I1 J1 I2 J2, N I1 J1 I2 J2 → Lat p l e s m below meth c b D aI aL ad ad' 1030 [(0, .ref b), (1, .ref (ad 0)), (2, .ref (ad' 0)), (3, .int (nI i))] [] I1 J1 I2 J2) : Lat p l e s m below meth c b D aI aL ad ad' 156 [(0, .ref b), (1, .ref (ad 0)), (2, .ref (ad' 0)), (3, .int (nI i))] [] I J I' J' := by
  obtain ⟨P1, P2, h1, h2, hq⟩ := h
  refine la_aload_n C 1 dL_law_156 rfl ?_
  refine la_aload_n C 0 dL_law_157 rfl ?_
  refine la_iload_n C 3 dL_law_158 rfl ?_
  refine la_iconst C (v := nI 1) dL_law_159 rfl ?_
  refine la_iadd C dL_law_160 ?_
  refine la_eqi (nI_add i 1) ?_
  refine la_sld C (by omega) hn dL_law_161 ?_
  refine la_aload_n C 0 dL_law_162 rfl ?_
  refine la_iload_n C 3 dL_law_163 rfl ?_
  refine la_iconst C (v := nI 2) dL_law_164 rfl ?_
  refine la_iadd C dL_law_165 ?_
  refine la_eqi (nI_add i 2) ?_
  refine la_sld C (by omega) hn dL_law_166 ?_
  refine la_callC (As := [.int (xs (i + 1)), .int (xs (i + 2))]) (rest := []) C h1 ⟨rfl, rfl, Nat.le_of_ble_eq_true rfl, Nat.le_of_ble_eq_true rfl⟩ rfl wm_L_13 wi_X6_square ws_X6_square w0_X6 wc_X6_square nm_X6_square rfl rfl (Nat.zero_le _) dL_law_167 (fun r1 I1 J1 hp1 => ?_)
  refine la_aload_n C 2 dL_law_170 rfl ?_
  refine la_aload_n C 0 dL_law_171 rfl ?_
  refine la_iload_n C 3 dL_law_172 rfl ?_
  refine la_iconst C (v := nI 1) dL_law_173 rfl ?_
  refine la_iadd C dL_law_174 ?_
  refine la_eqi (nI_add i 1) ?_
  refine la_sld C (by omega) hn dL_law_175 ?_
  refine la_aload_n C 0 dL_law_176 rfl ?_
  refine la_iload_n C 3 dL_law_177 rfl ?_
  refine la_iconst C (v := nI 2) dL_law_178 rfl ?_
  refine la_iadd C dL_law_179 ?_
  refine la_eqi (nI_add i 2) ?_
  refine la_sld C (by omega) hn dL_law_180 ?_
  refine la_callR (As := [.int (xs (i + 1)), .int (xs (i + 2))]) (rest := (r1.toList ++ [])) C h2 ⟨rfl, rfl, Nat.le_of_ble_eq_true rfl, Nat.le_of_ble_eq_true rfl⟩ rfl wm_L_17 wi_X7_square ws_X7_square w0_X7 wc_X7_square nm_X7_square rfl rfl (la_cat r1) dL_law_181 (fun r2 I2 J2 hp2 => ?_)
  obtain ⟨⟨v, rfl, rfl⟩, hN⟩ := hq _ _ _ _ _ _ hp1 hp2
  refine la_icmp_eq C (tgt := 1030) dL_law_184 (by decide) ?_
  exact kk _ _ _ _ hN
theorem lc_1 {p : Program} {l : Launch} {e : Env} {s : State} {m : MethodId} {below : List Frame} {meth : Method} {c : Code} {b n : Nat} {xs : Nat → Int32} {D : va_G} {aI aL : ClassId} {ad ad' : Nat → Nat} {I : sa_I} {J : sa_J} {I' : sa_I} {J' : sa_J} {N : sa_I → sa_J → sa_I → sa_J → Prop} {i : Nat} (C : la_Cx p s m meth c b n xs D aI aL) (hi : i + 4 ≤ n) (hn : n < 2 ^ 31) (h : la_Step l D aI aL ad ad' N 1 (xs (i + 1)) (xs (i + 2)) (xs (i + 3)) I J I' J') (kk : ∀ I1 J1 I2 J2, N I1 J1 I2 J2 → Lat p l e s m below meth c b D aI aL ad ad' 1030 [(0, .ref b), (1, .ref (ad 0)), (2, .ref (ad' 0)), (3, .int (nI i))] [] I1 J1 I2 J2) : Lat p l e s m below meth c b D aI aL ad ad' 189 [(0, .ref b), (1, .ref (ad 0)), (2, .ref (ad' 0)), (3, .int (nI i))] [] I J I' J' := by
  obtain ⟨P1, P2, h1, h2, hq⟩ := h
  refine la_aload_n C 1 dL_law_189 rfl ?_
  refine la_aload_n C 0 dL_law_190 rfl ?_
  refine la_iload_n C 3 dL_law_191 rfl ?_
  refine la_iconst C (v := nI 1) dL_law_192 rfl ?_
  refine la_iadd C dL_law_193 ?_
  refine la_eqi (nI_add i 1) ?_
  refine la_sld C (by omega) hn dL_law_194 ?_
  refine la_aload_n C 0 dL_law_195 rfl ?_
  refine la_iload_n C 3 dL_law_196 rfl ?_
  refine la_iconst C (v := nI 2) dL_law_197 rfl ?_
  refine la_iadd C dL_law_198 ?_
  refine la_eqi (nI_add i 2) ?_
  refine la_sld C (by omega) hn dL_law_199 ?_
  refine la_aload_n C 0 dL_law_200 rfl ?_
  refine la_iload_n C 3 dL_law_201 rfl ?_
  refine la_iconst C (v := nI 3) dL_law_202 rfl ?_
  refine la_iadd C dL_law_203 ?_
  refine la_eqi (nI_add i 3) ?_
  refine la_sld C (by omega) hn dL_law_204 ?_
  refine la_callC (As := [.int (xs (i + 1)), .int (xs (i + 2)), .int (xs (i + 3))]) (rest := []) C h1 ⟨rfl, rfl, Nat.le_of_ble_eq_true rfl, Nat.le_of_ble_eq_true rfl⟩ rfl wm_L_18 wi_X6_cube ws_X6_cube w0_X6 wc_X6_cube nm_X6_cube rfl rfl (Nat.zero_le _) dL_law_205 (fun r1 I1 J1 hp1 => ?_)
  refine la_aload_n C 2 dL_law_208 rfl ?_
  refine la_aload_n C 0 dL_law_209 rfl ?_
  refine la_iload_n C 3 dL_law_210 rfl ?_
  refine la_iconst C (v := nI 1) dL_law_211 rfl ?_
  refine la_iadd C dL_law_212 ?_
  refine la_eqi (nI_add i 1) ?_
  refine la_sld C (by omega) hn dL_law_213 ?_
  refine la_aload_n C 0 dL_law_214 rfl ?_
  refine la_iload_n C 3 dL_law_215 rfl ?_
  refine la_iconst C (v := nI 2) dL_law_216 rfl ?_
  refine la_iadd C dL_law_217 ?_
  refine la_eqi (nI_add i 2) ?_
  refine la_sld C (by omega) hn dL_law_218 ?_
  refine la_aload_n C 0 dL_law_219 rfl ?_
  refine la_iload_n C 3 dL_law_220 rfl ?_
  refine la_iconst C (v := nI 3) dL_law_221 rfl ?_
  refine la_iadd C dL_law_222 ?_
  refine la_eqi (nI_add i 3) ?_
  refine la_sld C (by omega) hn dL_law_223 ?_
  refine la_callR (As := [.int (xs (i + 1)), .int (xs (i + 2)), .int (xs (i + 3))]) (rest := (r1.toList ++ [])) C h2 ⟨rfl, rfl, Nat.le_of_ble_eq_true rfl, Nat.le_of_ble_eq_true rfl⟩ rfl wm_L_22 wi_X7_cube ws_X7_cube w0_X7 wc_X7_cube nm_X7_cube rfl rfl (la_cat r1) dL_law_224 (fun r2 I2 J2 hp2 => ?_)
  obtain ⟨⟨v, rfl, rfl⟩, hN⟩ := hq _ _ _ _ _ _ hp1 hp2
  refine la_icmp_eq C (tgt := 1030) dL_law_227 (by decide) ?_
  exact kk _ _ _ _ hN
theorem lc_2 {p : Program} {l : Launch} {e : Env} {s : State} {m : MethodId} {below : List Frame} {meth : Method} {c : Code} {b n : Nat} {xs : Nat → Int32} {D : va_G} {aI aL : ClassId} {ad ad' : Nat → Nat} {I : sa_I} {J : sa_J} {I' : sa_I} {J' : sa_J} {N : sa_I → sa_J → sa_I → sa_J → Prop} {i : Nat} (C : la_Cx p s m meth c b n xs D aI aL) (hi : i + 4 ≤ n) (hn : n < 2 ^ 31) (h : la_Step l D aI aL ad ad' N 2 (xs (i + 1)) (xs (i + 2)) (xs (i + 3)) I J I' J') (kk : ∀ I1 J1 I2 J2, N I1 J1 I2 J2 → Lat p l e s m below meth c b D aI aL ad ad' 1030 [(0, .ref b), (1, .ref (ad 0)), (2, .ref (ad' 0)), (3, .int (nI i))] [] I1 J1 I2 J2) : Lat p l e s m below meth c b D aI aL ad ad' 232 [(0, .ref b), (1, .ref (ad 0)), (2, .ref (ad' 0)), (3, .int (nI i))] [] I J I' J' := by
  obtain ⟨P1, P2, h1, h2, hq⟩ := h
  refine la_aload_n C 1 dL_law_232 rfl ?_
  refine la_aload_n C 0 dL_law_233 rfl ?_
  refine la_iload_n C 3 dL_law_234 rfl ?_
  refine la_iconst C (v := nI 1) dL_law_235 rfl ?_
  refine la_iadd C dL_law_236 ?_
  refine la_eqi (nI_add i 1) ?_
  refine la_sld C (by omega) hn dL_law_237 ?_
  refine la_callC (As := [.int (xs (i + 1))]) (rest := []) C h1 ⟨rfl, rfl, Nat.le_of_ble_eq_true rfl, Nat.le_of_ble_eq_true rfl⟩ rfl wm_L_23 wi_X6_field ws_X6_field w0_X6 wc_X6_field nm_X6_field rfl rfl (Nat.zero_le _) dL_law_238 (fun r1 I1 J1 hp1 => ?_)
  refine la_aload_n C 2 dL_law_241 rfl ?_
  refine la_aload_n C 0 dL_law_242 rfl ?_
  refine la_iload_n C 3 dL_law_243 rfl ?_
  refine la_iconst C (v := nI 1) dL_law_244 rfl ?_
  refine la_iadd C dL_law_245 ?_
  refine la_eqi (nI_add i 1) ?_
  refine la_sld C (by omega) hn dL_law_246 ?_
  refine la_callR (As := [.int (xs (i + 1))]) (rest := (r1.toList ++ [])) C h2 ⟨rfl, rfl, Nat.le_of_ble_eq_true rfl, Nat.le_of_ble_eq_true rfl⟩ rfl wm_L_27 wi_X7_field ws_X7_field w0_X7 wc_X7_field nm_X7_field rfl rfl (la_cat r1) dL_law_247 (fun r2 I2 J2 hp2 => ?_)
  obtain ⟨⟨v, rfl, rfl⟩, hN⟩ := hq _ _ _ _ _ _ hp1 hp2
  refine la_icmp_eq C (tgt := 1030) dL_law_250 (by decide) ?_
  exact kk _ _ _ _ hN
theorem lc_3 {p : Program} {l : Launch} {e : Env} {s : State} {m : MethodId} {below : List Frame} {meth : Method} {c : Code} {b n : Nat} {xs : Nat → Int32} {D : va_G} {aI aL : ClassId} {ad ad' : Nat → Nat} {I : sa_I} {J : sa_J} {I' : sa_I} {J' : sa_J} {N : sa_I → sa_J → sa_I → sa_J → Prop} {i : Nat} (C : la_Cx p s m meth c b n xs D aI aL) (hi : i + 4 ≤ n) (hn : n < 2 ^ 31) (h : la_Step l D aI aL ad ad' N 3 (xs (i + 1)) (xs (i + 2)) (xs (i + 3)) I J I' J') (kk : ∀ I1 J1 I2 J2, N I1 J1 I2 J2 → Lat p l e s m below meth c b D aI aL ad ad' 1030 [(0, .ref b), (1, .ref (ad 0)), (2, .ref (ad' 0)), (3, .int (nI i))] [] I1 J1 I2 J2) : Lat p l e s m below meth c b D aI aL ad ad' 255 [(0, .ref b), (1, .ref (ad 0)), (2, .ref (ad' 0)), (3, .int (nI i))] [] I J I' J' := by
  obtain ⟨P1, P2, h1, h2, hq⟩ := h
  refine la_aload_n C 1 dL_law_255 rfl ?_
  refine la_aload_n C 0 dL_law_256 rfl ?_
  refine la_iload_n C 3 dL_law_257 rfl ?_
  refine la_iconst C (v := nI 1) dL_law_258 rfl ?_
  refine la_iadd C dL_law_259 ?_
  refine la_eqi (nI_add i 1) ?_
  refine la_sld C (by omega) hn dL_law_260 ?_
  refine la_callC (As := [.int (xs (i + 1))]) (rest := []) C h1 ⟨rfl, rfl, Nat.le_of_ble_eq_true rfl, Nat.le_of_ble_eq_true rfl⟩ rfl wm_L_28 wi_X6_disc ws_X6_disc w0_X6 wc_X6_disc nm_X6_disc rfl rfl (Nat.zero_le _) dL_law_261 (fun r1 I1 J1 hp1 => ?_)
  refine la_aload_n C 2 dL_law_264 rfl ?_
  refine la_aload_n C 0 dL_law_265 rfl ?_
  refine la_iload_n C 3 dL_law_266 rfl ?_
  refine la_iconst C (v := nI 1) dL_law_267 rfl ?_
  refine la_iadd C dL_law_268 ?_
  refine la_eqi (nI_add i 1) ?_
  refine la_sld C (by omega) hn dL_law_269 ?_
  refine la_callR (As := [.int (xs (i + 1))]) (rest := (r1.toList ++ [])) C h2 ⟨rfl, rfl, Nat.le_of_ble_eq_true rfl, Nat.le_of_ble_eq_true rfl⟩ rfl wm_L_32 wi_X7_disc ws_X7_disc w0_X7 wc_X7_disc nm_X7_disc rfl rfl (la_cat r1) dL_law_270 (fun r2 I2 J2 hp2 => ?_)
  obtain ⟨⟨v, rfl, rfl⟩, hN⟩ := hq _ _ _ _ _ _ hp1 hp2
  refine la_lif_eq C (tgt := 1030) dL_law_273 dL_law_274 (by decide) ?_
  exact kk _ _ _ _ hN
theorem lc_4 {p : Program} {l : Launch} {e : Env} {s : State} {m : MethodId} {below : List Frame} {meth : Method} {c : Code} {b n : Nat} {xs : Nat → Int32} {D : va_G} {aI aL : ClassId} {ad ad' : Nat → Nat} {I : sa_I} {J : sa_J} {I' : sa_I} {J' : sa_J} {N : sa_I → sa_J → sa_I → sa_J → Prop} {i : Nat} (C : la_Cx p s m meth c b n xs D aI aL) (hi : i + 4 ≤ n) (hn : n < 2 ^ 31) (h : la_Step l D aI aL ad ad' N 4 (xs (i + 1)) (xs (i + 2)) (xs (i + 3)) I J I' J') (kk : ∀ I1 J1 I2 J2, N I1 J1 I2 J2 → Lat p l e s m below meth c b D aI aL ad ad' 1030 [(0, .ref b), (1, .ref (ad 0)), (2, .ref (ad' 0)), (3, .int (nI i))] [] I1 J1 I2 J2) : Lat p l e s m below meth c b D aI aL ad ad' 279 [(0, .ref b), (1, .ref (ad 0)), (2, .ref (ad' 0)), (3, .int (nI i))] [] I J I' J' := by
  obtain ⟨P1, P2, h1, h2, hq⟩ := h
  refine la_aload_n C 1 dL_law_279 rfl ?_
  refine la_aload_n C 0 dL_law_280 rfl ?_
  refine la_iload_n C 3 dL_law_281 rfl ?_
  refine la_iconst C (v := nI 1) dL_law_282 rfl ?_
  refine la_iadd C dL_law_283 ?_
  refine la_eqi (nI_add i 1) ?_
  refine la_sld C (by omega) hn dL_law_284 ?_
  refine la_aload_n C 0 dL_law_285 rfl ?_
  refine la_iload_n C 3 dL_law_286 rfl ?_
  refine la_iconst C (v := nI 2) dL_law_287 rfl ?_
  refine la_iadd C dL_law_288 ?_
  refine la_eqi (nI_add i 2) ?_
  refine la_sld C (by omega) hn dL_law_289 ?_
  refine la_callC (As := [.int (xs (i + 1)), .int (xs (i + 2))]) (rest := []) C h1 ⟨rfl, rfl, Nat.le_of_ble_eq_true rfl, Nat.le_of_ble_eq_true rfl⟩ rfl wm_L_33 wi_X6_basis ws_X6_basis w0_X6 wc_X6_basis nm_X6_basis rfl rfl (Nat.zero_le _) dL_law_290 (fun r1 I1 J1 hp1 => ?_)
  refine la_aload_n C 2 dL_law_293 rfl ?_
  refine la_aload_n C 0 dL_law_294 rfl ?_
  refine la_iload_n C 3 dL_law_295 rfl ?_
  refine la_iconst C (v := nI 1) dL_law_296 rfl ?_
  refine la_iadd C dL_law_297 ?_
  refine la_eqi (nI_add i 1) ?_
  refine la_sld C (by omega) hn dL_law_298 ?_
  refine la_aload_n C 0 dL_law_299 rfl ?_
  refine la_iload_n C 3 dL_law_300 rfl ?_
  refine la_iconst C (v := nI 2) dL_law_301 rfl ?_
  refine la_iadd C dL_law_302 ?_
  refine la_eqi (nI_add i 2) ?_
  refine la_sld C (by omega) hn dL_law_303 ?_
  refine la_callR (As := [.int (xs (i + 1)), .int (xs (i + 2))]) (rest := (r1.toList ++ [])) C h2 ⟨rfl, rfl, Nat.le_of_ble_eq_true rfl, Nat.le_of_ble_eq_true rfl⟩ rfl wm_L_36 wi_X7_basis ws_X7_basis w0_X7 wc_X7_basis nm_X7_basis rfl rfl (la_cat r1) dL_law_304 (fun r2 I2 J2 hp2 => ?_)
  obtain ⟨⟨v, rfl, rfl⟩, hN⟩ := hq _ _ _ _ _ _ hp1 hp2
  refine la_icmp_eq C (tgt := 1030) dL_law_307 (by decide) ?_
  exact kk _ _ _ _ hN
theorem lc_5 {p : Program} {l : Launch} {e : Env} {s : State} {m : MethodId} {below : List Frame} {meth : Method} {c : Code} {b n : Nat} {xs : Nat → Int32} {D : va_G} {aI aL : ClassId} {ad ad' : Nat → Nat} {I : sa_I} {J : sa_J} {I' : sa_I} {J' : sa_J} {N : sa_I → sa_J → sa_I → sa_J → Prop} {i : Nat} (C : la_Cx p s m meth c b n xs D aI aL) (hi : i + 4 ≤ n) (hn : n < 2 ^ 31) (h : la_Step l D aI aL ad ad' N 5 (xs (i + 1)) (xs (i + 2)) (xs (i + 3)) I J I' J') (kk : ∀ I1 J1 I2 J2, N I1 J1 I2 J2 → Lat p l e s m below meth c b D aI aL ad ad' 1030 [(0, .ref b), (1, .ref (ad 0)), (2, .ref (ad' 0)), (3, .int (nI i))] [] I1 J1 I2 J2) : Lat p l e s m below meth c b D aI aL ad ad' 312 [(0, .ref b), (1, .ref (ad 0)), (2, .ref (ad' 0)), (3, .int (nI i))] [] I J I' J' := by
  obtain ⟨P1, P2, h1, h2, hq⟩ := h
  refine la_aload_n C 1 dL_law_312 rfl ?_
  refine la_aload_n C 0 dL_law_313 rfl ?_
  refine la_iload_n C 3 dL_law_314 rfl ?_
  refine la_iconst C (v := nI 1) dL_law_315 rfl ?_
  refine la_iadd C dL_law_316 ?_
  refine la_eqi (nI_add i 1) ?_
  refine la_sld C (by omega) hn dL_law_317 ?_
  refine la_aload_n C 0 dL_law_318 rfl ?_
  refine la_iload_n C 3 dL_law_319 rfl ?_
  refine la_iconst C (v := nI 2) dL_law_320 rfl ?_
  refine la_iadd C dL_law_321 ?_
  refine la_eqi (nI_add i 2) ?_
  refine la_sld C (by omega) hn dL_law_322 ?_
  refine la_aload_n C 0 dL_law_323 rfl ?_
  refine la_iload_n C 3 dL_law_324 rfl ?_
  refine la_iconst C (v := nI 3) dL_law_325 rfl ?_
  refine la_iadd C dL_law_326 ?_
  refine la_eqi (nI_add i 3) ?_
  refine la_sld C (by omega) hn dL_law_327 ?_
  refine la_callC (As := [.int (xs (i + 1)), .int (xs (i + 2)), .int (xs (i + 3))]) (rest := []) C h1 ⟨rfl, rfl, Nat.le_of_ble_eq_true rfl, Nat.le_of_ble_eq_true rfl⟩ rfl wm_L_37 wi_X6_table ws_X6_table w0_X6 wc_X6_table nm_X6_table rfl rfl (Nat.zero_le _) dL_law_328 (fun r1 I1 J1 hp1 => ?_)
  refine la_aload_n C 2 dL_law_331 rfl ?_
  refine la_aload_n C 0 dL_law_332 rfl ?_
  refine la_iload_n C 3 dL_law_333 rfl ?_
  refine la_iconst C (v := nI 1) dL_law_334 rfl ?_
  refine la_iadd C dL_law_335 ?_
  refine la_eqi (nI_add i 1) ?_
  refine la_sld C (by omega) hn dL_law_336 ?_
  refine la_aload_n C 0 dL_law_337 rfl ?_
  refine la_iload_n C 3 dL_law_338 rfl ?_
  refine la_iconst C (v := nI 2) dL_law_339 rfl ?_
  refine la_iadd C dL_law_340 ?_
  refine la_eqi (nI_add i 2) ?_
  refine la_sld C (by omega) hn dL_law_341 ?_
  refine la_aload_n C 0 dL_law_342 rfl ?_
  refine la_iload_n C 3 dL_law_343 rfl ?_
  refine la_iconst C (v := nI 3) dL_law_344 rfl ?_
  refine la_iadd C dL_law_345 ?_
  refine la_eqi (nI_add i 3) ?_
  refine la_sld C (by omega) hn dL_law_346 ?_
  refine la_callR (As := [.int (xs (i + 1)), .int (xs (i + 2)), .int (xs (i + 3))]) (rest := (r1.toList ++ [])) C h2 ⟨rfl, rfl, Nat.le_of_ble_eq_true rfl, Nat.le_of_ble_eq_true rfl⟩ rfl wm_L_40 wi_X7_table ws_X7_table w0_X7 wc_X7_table nm_X7_table rfl rfl (la_cat r1) dL_law_347 (fun r2 I2 J2 hp2 => ?_)
  obtain ⟨⟨v, rfl, rfl⟩, hN⟩ := hq _ _ _ _ _ _ hp1 hp2
  refine la_icmp_eq C (tgt := 1030) dL_law_350 (by decide) ?_
  exact kk _ _ _ _ hN
theorem lc_6 {p : Program} {l : Launch} {e : Env} {s : State} {m : MethodId} {below : List Frame} {meth : Method} {c : Code} {b n : Nat} {xs : Nat → Int32} {D : va_G} {aI aL : ClassId} {ad ad' : Nat → Nat} {I : sa_I} {J : sa_J} {I' : sa_I} {J' : sa_J} {N : sa_I → sa_J → sa_I → sa_J → Prop} {i : Nat} (C : la_Cx p s m meth c b n xs D aI aL) (hi : i + 4 ≤ n) (hn : n < 2 ^ 31) (h : la_Step l D aI aL ad ad' N 6 (xs (i + 1)) (xs (i + 2)) (xs (i + 3)) I J I' J') (kk : ∀ I1 J1 I2 J2, N I1 J1 I2 J2 → Lat p l e s m below meth c b D aI aL ad ad' 1030 [(0, .ref b), (1, .ref (ad 0)), (2, .ref (ad' 0)), (3, .int (nI i))] [] I1 J1 I2 J2) : Lat p l e s m below meth c b D aI aL ad ad' 355 [(0, .ref b), (1, .ref (ad 0)), (2, .ref (ad' 0)), (3, .int (nI i))] [] I J I' J' := by
  obtain ⟨P1, P2, h1, h2, hq⟩ := h
  refine la_aload_n C 1 dL_law_355 rfl ?_
  refine la_aload_n C 0 dL_law_356 rfl ?_
  refine la_iload_n C 3 dL_law_357 rfl ?_
  refine la_iconst C (v := nI 1) dL_law_358 rfl ?_
  refine la_iadd C dL_law_359 ?_
  refine la_eqi (nI_add i 1) ?_
  refine la_sld C (by omega) hn dL_law_360 ?_
  refine la_aload_n C 0 dL_law_361 rfl ?_
  refine la_iload_n C 3 dL_law_362 rfl ?_
  refine la_iconst C (v := nI 2) dL_law_363 rfl ?_
  refine la_iadd C dL_law_364 ?_
  refine la_eqi (nI_add i 2) ?_
  refine la_sld C (by omega) hn dL_law_365 ?_
  refine la_aload_n C 0 dL_law_366 rfl ?_
  refine la_iload_n C 3 dL_law_367 rfl ?_
  refine la_iconst C (v := nI 3) dL_law_368 rfl ?_
  refine la_iadd C dL_law_369 ?_
  refine la_eqi (nI_add i 3) ?_
  refine la_sld C (by omega) hn dL_law_370 ?_
  refine la_callC (As := [.int (xs (i + 1)), .int (xs (i + 2)), .int (xs (i + 3))]) (rest := []) C h1 ⟨rfl, rfl, Nat.le_of_ble_eq_true rfl, Nat.le_of_ble_eq_true rfl⟩ rfl wm_L_41 wi_X6_element ws_X6_element w0_X6 wc_X6_element nm_X6_element rfl rfl (Nat.zero_le _) dL_law_371 (fun r1 I1 J1 hp1 => ?_)
  refine la_aload_n C 2 dL_law_374 rfl ?_
  refine la_aload_n C 0 dL_law_375 rfl ?_
  refine la_iload_n C 3 dL_law_376 rfl ?_
  refine la_iconst C (v := nI 1) dL_law_377 rfl ?_
  refine la_iadd C dL_law_378 ?_
  refine la_eqi (nI_add i 1) ?_
  refine la_sld C (by omega) hn dL_law_379 ?_
  refine la_aload_n C 0 dL_law_380 rfl ?_
  refine la_iload_n C 3 dL_law_381 rfl ?_
  refine la_iconst C (v := nI 2) dL_law_382 rfl ?_
  refine la_iadd C dL_law_383 ?_
  refine la_eqi (nI_add i 2) ?_
  refine la_sld C (by omega) hn dL_law_384 ?_
  refine la_aload_n C 0 dL_law_385 rfl ?_
  refine la_iload_n C 3 dL_law_386 rfl ?_
  refine la_iconst C (v := nI 3) dL_law_387 rfl ?_
  refine la_iadd C dL_law_388 ?_
  refine la_eqi (nI_add i 3) ?_
  refine la_sld C (by omega) hn dL_law_389 ?_
  refine la_callR (As := [.int (xs (i + 1)), .int (xs (i + 2)), .int (xs (i + 3))]) (rest := (r1.toList ++ [])) C h2 ⟨rfl, rfl, Nat.le_of_ble_eq_true rfl, Nat.le_of_ble_eq_true rfl⟩ rfl wm_L_44 wi_X7_element ws_X7_element w0_X7 wc_X7_element nm_X7_element rfl rfl (la_cat r1) dL_law_390 (fun r2 I2 J2 hp2 => ?_)
  obtain ⟨⟨v, rfl, rfl⟩, hN⟩ := hq _ _ _ _ _ _ hp1 hp2
  refine la_icmp_eq C (tgt := 1030) dL_law_393 (by decide) ?_
  exact kk _ _ _ _ hN
theorem lc_7 {p : Program} {l : Launch} {e : Env} {s : State} {m : MethodId} {below : List Frame} {meth : Method} {c : Code} {b n : Nat} {xs : Nat → Int32} {D : va_G} {aI aL : ClassId} {ad ad' : Nat → Nat} {I : sa_I} {J : sa_J} {I' : sa_I} {J' : sa_J} {N : sa_I → sa_J → sa_I → sa_J → Prop} {i : Nat} (C : la_Cx p s m meth c b n xs D aI aL) (hi : i + 4 ≤ n) (hn : n < 2 ^ 31) (h : la_Step l D aI aL ad ad' N 7 (xs (i + 1)) (xs (i + 2)) (xs (i + 3)) I J I' J') (kk : ∀ I1 J1 I2 J2, N I1 J1 I2 J2 → Lat p l e s m below meth c b D aI aL ad ad' 1030 [(0, .ref b), (1, .ref (ad 0)), (2, .ref (ad' 0)), (3, .int (nI i))] [] I1 J1 I2 J2) : Lat p l e s m below meth c b D aI aL ad ad' 398 [(0, .ref b), (1, .ref (ad 0)), (2, .ref (ad' 0)), (3, .int (nI i))] [] I J I' J' := by
  obtain ⟨P1, P2, h1, h2, hq⟩ := h
  refine la_aload_n C 1 dL_law_398 rfl ?_
  refine la_aload_n C 0 dL_law_399 rfl ?_
  refine la_iload_n C 3 dL_law_400 rfl ?_
  refine la_iconst C (v := nI 1) dL_law_401 rfl ?_
  refine la_iadd C dL_law_402 ?_
  refine la_eqi (nI_add i 1) ?_
  refine la_sld C (by omega) hn dL_law_403 ?_
  refine la_aload_n C 0 dL_law_404 rfl ?_
  refine la_iload_n C 3 dL_law_405 rfl ?_
  refine la_iconst C (v := nI 2) dL_law_406 rfl ?_
  refine la_iadd C dL_law_407 ?_
  refine la_eqi (nI_add i 2) ?_
  refine la_sld C (by omega) hn dL_law_408 ?_
  refine la_aload_n C 0 dL_law_409 rfl ?_
  refine la_iload_n C 3 dL_law_410 rfl ?_
  refine la_iconst C (v := nI 3) dL_law_411 rfl ?_
  refine la_iadd C dL_law_412 ?_
  refine la_eqi (nI_add i 3) ?_
  refine la_sld C (by omega) hn dL_law_413 ?_
  refine la_callC (As := [.int (xs (i + 1)), .int (xs (i + 2)), .int (xs (i + 3))]) (rest := []) C h1 ⟨rfl, rfl, Nat.le_of_ble_eq_true rfl, Nat.le_of_ble_eq_true rfl⟩ rfl wm_L_45 wi_X6_make ws_X6_make w0_X6 wc_X6_make nm_X6_make rfl rfl (Nat.zero_le _) dL_law_414 (fun r1 I1 J1 hp1 => ?_)
  refine la_aload_n C 2 dL_law_417 rfl ?_
  refine la_aload_n C 0 dL_law_418 rfl ?_
  refine la_iload_n C 3 dL_law_419 rfl ?_
  refine la_iconst C (v := nI 1) dL_law_420 rfl ?_
  refine la_iadd C dL_law_421 ?_
  refine la_eqi (nI_add i 1) ?_
  refine la_sld C (by omega) hn dL_law_422 ?_
  refine la_aload_n C 0 dL_law_423 rfl ?_
  refine la_iload_n C 3 dL_law_424 rfl ?_
  refine la_iconst C (v := nI 2) dL_law_425 rfl ?_
  refine la_iadd C dL_law_426 ?_
  refine la_eqi (nI_add i 2) ?_
  refine la_sld C (by omega) hn dL_law_427 ?_
  refine la_aload_n C 0 dL_law_428 rfl ?_
  refine la_iload_n C 3 dL_law_429 rfl ?_
  refine la_iconst C (v := nI 3) dL_law_430 rfl ?_
  refine la_iadd C dL_law_431 ?_
  refine la_eqi (nI_add i 3) ?_
  refine la_sld C (by omega) hn dL_law_432 ?_
  refine la_callR (As := [.int (xs (i + 1)), .int (xs (i + 2)), .int (xs (i + 3))]) (rest := (r1.toList ++ [])) C h2 ⟨rfl, rfl, Nat.le_of_ble_eq_true rfl, Nat.le_of_ble_eq_true rfl⟩ rfl wm_L_48 wi_X7_make ws_X7_make w0_X7 wc_X7_make nm_X7_make rfl rfl (la_cat r1) dL_law_433 (fun r2 I2 J2 hp2 => ?_)
  obtain ⟨⟨v, rfl, rfl⟩, hN⟩ := hq _ _ _ _ _ _ hp1 hp2
  refine la_icmp_eq C (tgt := 1030) dL_law_436 (by decide) ?_
  exact kk _ _ _ _ hN
theorem lc_8 {p : Program} {l : Launch} {e : Env} {s : State} {m : MethodId} {below : List Frame} {meth : Method} {c : Code} {b n : Nat} {xs : Nat → Int32} {D : va_G} {aI aL : ClassId} {ad ad' : Nat → Nat} {I : sa_I} {J : sa_J} {I' : sa_I} {J' : sa_J} {N : sa_I → sa_J → sa_I → sa_J → Prop} {i : Nat} (C : la_Cx p s m meth c b n xs D aI aL) (hi : i + 4 ≤ n) (hn : n < 2 ^ 31) (h : la_Step l D aI aL ad ad' N 8 (xs (i + 1)) (xs (i + 2)) (xs (i + 3)) I J I' J') (kk : ∀ I1 J1 I2 J2, N I1 J1 I2 J2 → Lat p l e s m below meth c b D aI aL ad ad' 1030 [(0, .ref b), (1, .ref (ad 0)), (2, .ref (ad' 0)), (3, .int (nI i))] [] I1 J1 I2 J2) : Lat p l e s m below meth c b D aI aL ad ad' 441 [(0, .ref b), (1, .ref (ad 0)), (2, .ref (ad' 0)), (3, .int (nI i))] [] I J I' J' := by
  obtain ⟨P1, P2, h1, h2, hq⟩ := h
  refine la_aload_n C 1 dL_law_441 rfl ?_
  refine la_aload_n C 0 dL_law_442 rfl ?_
  refine la_iload_n C 3 dL_law_443 rfl ?_
  refine la_iconst C (v := nI 1) dL_law_444 rfl ?_
  refine la_iadd C dL_law_445 ?_
  refine la_eqi (nI_add i 1) ?_
  refine la_sld C (by omega) hn dL_law_446 ?_
  refine la_aload_n C 0 dL_law_447 rfl ?_
  refine la_iload_n C 3 dL_law_448 rfl ?_
  refine la_iconst C (v := nI 2) dL_law_449 rfl ?_
  refine la_iadd C dL_law_450 ?_
  refine la_eqi (nI_add i 2) ?_
  refine la_sld C (by omega) hn dL_law_451 ?_
  refine la_callC (As := [.int (xs (i + 1)), .int (xs (i + 2))]) (rest := []) C h1 ⟨rfl, rfl, Nat.le_of_ble_eq_true rfl, Nat.le_of_ble_eq_true rfl⟩ rfl wm_L_49 wi_X6_coordinate ws_X6_coordinate w0_X6 wc_X6_coordinate nm_X6_coordinate rfl rfl (Nat.zero_le _) dL_law_452 (fun r1 I1 J1 hp1 => ?_)
  refine la_aload_n C 2 dL_law_455 rfl ?_
  refine la_aload_n C 0 dL_law_456 rfl ?_
  refine la_iload_n C 3 dL_law_457 rfl ?_
  refine la_iconst C (v := nI 1) dL_law_458 rfl ?_
  refine la_iadd C dL_law_459 ?_
  refine la_eqi (nI_add i 1) ?_
  refine la_sld C (by omega) hn dL_law_460 ?_
  refine la_aload_n C 0 dL_law_461 rfl ?_
  refine la_iload_n C 3 dL_law_462 rfl ?_
  refine la_iconst C (v := nI 2) dL_law_463 rfl ?_
  refine la_iadd C dL_law_464 ?_
  refine la_eqi (nI_add i 2) ?_
  refine la_sld C (by omega) hn dL_law_465 ?_
  refine la_callR (As := [.int (xs (i + 1)), .int (xs (i + 2))]) (rest := (r1.toList ++ [])) C h2 ⟨rfl, rfl, Nat.le_of_ble_eq_true rfl, Nat.le_of_ble_eq_true rfl⟩ rfl wm_L_52 wi_X7_coordinate ws_X7_coordinate w0_X7 wc_X7_coordinate nm_X7_coordinate rfl rfl (la_cat r1) dL_law_466 (fun r2 I2 J2 hp2 => ?_)
  obtain ⟨⟨v, rfl, rfl⟩, hN⟩ := hq _ _ _ _ _ _ hp1 hp2
  refine la_icmp_eq C (tgt := 1030) dL_law_469 (by decide) ?_
  exact kk _ _ _ _ hN
theorem lc_9 {p : Program} {l : Launch} {e : Env} {s : State} {m : MethodId} {below : List Frame} {meth : Method} {c : Code} {b n : Nat} {xs : Nat → Int32} {D : va_G} {aI aL : ClassId} {ad ad' : Nat → Nat} {I : sa_I} {J : sa_J} {I' : sa_I} {J' : sa_J} {N : sa_I → sa_J → sa_I → sa_J → Prop} {i : Nat} (C : la_Cx p s m meth c b n xs D aI aL) (hi : i + 4 ≤ n) (hn : n < 2 ^ 31) (h : la_Step l D aI aL ad ad' N 9 (xs (i + 1)) (xs (i + 2)) (xs (i + 3)) I J I' J') (kk : ∀ I1 J1 I2 J2, N I1 J1 I2 J2 → Lat p l e s m below meth c b D aI aL ad ad' 1030 [(0, .ref b), (1, .ref (ad 0)), (2, .ref (ad' 0)), (3, .int (nI i))] [] I1 J1 I2 J2) : Lat p l e s m below meth c b D aI aL ad ad' 474 [(0, .ref b), (1, .ref (ad 0)), (2, .ref (ad' 0)), (3, .int (nI i))] [] I J I' J' := by
  obtain ⟨P1, P2, h1, h2, hq⟩ := h
  refine la_aload_n C 1 dL_law_474 rfl ?_
  refine la_aload_n C 0 dL_law_475 rfl ?_
  refine la_iload_n C 3 dL_law_476 rfl ?_
  refine la_iconst C (v := nI 1) dL_law_477 rfl ?_
  refine la_iadd C dL_law_478 ?_
  refine la_eqi (nI_add i 1) ?_
  refine la_sld C (by omega) hn dL_law_479 ?_
  refine la_aload_n C 0 dL_law_480 rfl ?_
  refine la_iload_n C 3 dL_law_481 rfl ?_
  refine la_iconst C (v := nI 2) dL_law_482 rfl ?_
  refine la_iadd C dL_law_483 ?_
  refine la_eqi (nI_add i 2) ?_
  refine la_sld C (by omega) hn dL_law_484 ?_
  refine la_callC (As := [.int (xs (i + 1)), .int (xs (i + 2))]) (rest := []) C h1 ⟨rfl, rfl, Nat.le_of_ble_eq_true rfl, Nat.le_of_ble_eq_true rfl⟩ rfl wm_L_53 wi_X6_norm ws_X6_norm w0_X6 wc_X6_norm nm_X6_norm rfl rfl (Nat.zero_le _) dL_law_485 (fun r1 I1 J1 hp1 => ?_)
  refine la_aload_n C 2 dL_law_488 rfl ?_
  refine la_aload_n C 0 dL_law_489 rfl ?_
  refine la_iload_n C 3 dL_law_490 rfl ?_
  refine la_iconst C (v := nI 1) dL_law_491 rfl ?_
  refine la_iadd C dL_law_492 ?_
  refine la_eqi (nI_add i 1) ?_
  refine la_sld C (by omega) hn dL_law_493 ?_
  refine la_aload_n C 0 dL_law_494 rfl ?_
  refine la_iload_n C 3 dL_law_495 rfl ?_
  refine la_iconst C (v := nI 2) dL_law_496 rfl ?_
  refine la_iadd C dL_law_497 ?_
  refine la_eqi (nI_add i 2) ?_
  refine la_sld C (by omega) hn dL_law_498 ?_
  refine la_callR (As := [.int (xs (i + 1)), .int (xs (i + 2))]) (rest := (r1.toList ++ [])) C h2 ⟨rfl, rfl, Nat.le_of_ble_eq_true rfl, Nat.le_of_ble_eq_true rfl⟩ rfl wm_L_57 wi_X7_norm ws_X7_norm w0_X7 wc_X7_norm nm_X7_norm rfl rfl (la_cat r1) dL_law_499 (fun r2 I2 J2 hp2 => ?_)
  obtain ⟨⟨v, rfl, rfl⟩, hN⟩ := hq _ _ _ _ _ _ hp1 hp2
  refine la_lif_eq C (tgt := 1030) dL_law_502 dL_law_503 (by decide) ?_
  exact kk _ _ _ _ hN
theorem lc_10 {p : Program} {l : Launch} {e : Env} {s : State} {m : MethodId} {below : List Frame} {meth : Method} {c : Code} {b n : Nat} {xs : Nat → Int32} {D : va_G} {aI aL : ClassId} {ad ad' : Nat → Nat} {I : sa_I} {J : sa_J} {I' : sa_I} {J' : sa_J} {N : sa_I → sa_J → sa_I → sa_J → Prop} {i : Nat} (C : la_Cx p s m meth c b n xs D aI aL) (hi : i + 4 ≤ n) (hn : n < 2 ^ 31) (h : la_Step l D aI aL ad ad' N 10 (xs (i + 1)) (xs (i + 2)) (xs (i + 3)) I J I' J') (kk : ∀ I1 J1 I2 J2, N I1 J1 I2 J2 → Lat p l e s m below meth c b D aI aL ad ad' 1030 [(0, .ref b), (1, .ref (ad 0)), (2, .ref (ad' 0)), (3, .int (nI i))] [] I1 J1 I2 J2) : Lat p l e s m below meth c b D aI aL ad ad' 508 [(0, .ref b), (1, .ref (ad 0)), (2, .ref (ad' 0)), (3, .int (nI i))] [] I J I' J' := by
  obtain ⟨P1, P2, h1, h2, hq⟩ := h
  refine la_aload_n C 1 dL_law_508 rfl ?_
  refine la_aload_n C 0 dL_law_509 rfl ?_
  refine la_iload_n C 3 dL_law_510 rfl ?_
  refine la_iconst C (v := nI 1) dL_law_511 rfl ?_
  refine la_iadd C dL_law_512 ?_
  refine la_eqi (nI_add i 1) ?_
  refine la_sld C (by omega) hn dL_law_513 ?_
  refine la_callC (As := [.int (xs (i + 1))]) (rest := []) C h1 ⟨rfl, rfl, Nat.le_of_ble_eq_true rfl, Nat.le_of_ble_eq_true rfl⟩ rfl wm_L_58 wi_X6_unit ws_X6_unit w0_X6 wc_X6_unit nm_X6_unit rfl rfl (Nat.zero_le _) dL_law_514 (fun r1 I1 J1 hp1 => ?_)
  refine la_aload_n C 2 dL_law_517 rfl ?_
  refine la_aload_n C 0 dL_law_518 rfl ?_
  refine la_iload_n C 3 dL_law_519 rfl ?_
  refine la_iconst C (v := nI 1) dL_law_520 rfl ?_
  refine la_iadd C dL_law_521 ?_
  refine la_eqi (nI_add i 1) ?_
  refine la_sld C (by omega) hn dL_law_522 ?_
  refine la_callR (As := [.int (xs (i + 1))]) (rest := (r1.toList ++ [])) C h2 ⟨rfl, rfl, Nat.le_of_ble_eq_true rfl, Nat.le_of_ble_eq_true rfl⟩ rfl wm_L_61 wi_X7_unit ws_X7_unit w0_X7 wc_X7_unit nm_X7_unit rfl rfl (la_cat r1) dL_law_523 (fun r2 I2 J2 hp2 => ?_)
  obtain ⟨⟨v, rfl, rfl⟩, hN⟩ := hq _ _ _ _ _ _ hp1 hp2
  refine la_icmp_eq C (tgt := 1030) dL_law_526 (by decide) ?_
  exact kk _ _ _ _ hN
theorem lc_11 {p : Program} {l : Launch} {e : Env} {s : State} {m : MethodId} {below : List Frame} {meth : Method} {c : Code} {b n : Nat} {xs : Nat → Int32} {D : va_G} {aI aL : ClassId} {ad ad' : Nat → Nat} {I : sa_I} {J : sa_J} {I' : sa_I} {J' : sa_J} {N : sa_I → sa_J → sa_I → sa_J → Prop} {i : Nat} (C : la_Cx p s m meth c b n xs D aI aL) (hi : i + 4 ≤ n) (hn : n < 2 ^ 31) (h : la_Step l D aI aL ad ad' N 11 (xs (i + 1)) (xs (i + 2)) (xs (i + 3)) I J I' J') (kk : ∀ I1 J1 I2 J2, N I1 J1 I2 J2 → Lat p l e s m below meth c b D aI aL ad ad' 1030 [(0, .ref b), (1, .ref (ad 0)), (2, .ref (ad' 0)), (3, .int (nI i))] [] I1 J1 I2 J2) : Lat p l e s m below meth c b D aI aL ad ad' 531 [(0, .ref b), (1, .ref (ad 0)), (2, .ref (ad' 0)), (3, .int (nI i))] [] I J I' J' := by
  obtain ⟨P1, P2, h1, h2, hq⟩ := h
  refine la_aload_n C 1 dL_law_531 rfl ?_
  refine la_aload_n C 0 dL_law_532 rfl ?_
  refine la_iload_n C 3 dL_law_533 rfl ?_
  refine la_iconst C (v := nI 1) dL_law_534 rfl ?_
  refine la_iadd C dL_law_535 ?_
  refine la_eqi (nI_add i 1) ?_
  refine la_sld C (by omega) hn dL_law_536 ?_
  refine la_aload_n C 0 dL_law_537 rfl ?_
  refine la_iload_n C 3 dL_law_538 rfl ?_
  refine la_iconst C (v := nI 2) dL_law_539 rfl ?_
  refine la_iadd C dL_law_540 ?_
  refine la_eqi (nI_add i 2) ?_
  refine la_sld C (by omega) hn dL_law_541 ?_
  refine la_callC (As := [.int (xs (i + 1)), .int (xs (i + 2))]) (rest := []) C h1 ⟨rfl, rfl, Nat.le_of_ble_eq_true rfl, Nat.le_of_ble_eq_true rfl⟩ rfl wm_L_62 wi_X6_ideal ws_X6_ideal w0_X6 wc_X6_ideal nm_X6_ideal rfl rfl (Nat.zero_le _) dL_law_542 (fun r1 I1 J1 hp1 => ?_)
  refine la_aload_n C 2 dL_law_545 rfl ?_
  refine la_aload_n C 0 dL_law_546 rfl ?_
  refine la_iload_n C 3 dL_law_547 rfl ?_
  refine la_iconst C (v := nI 1) dL_law_548 rfl ?_
  refine la_iadd C dL_law_549 ?_
  refine la_eqi (nI_add i 1) ?_
  refine la_sld C (by omega) hn dL_law_550 ?_
  refine la_aload_n C 0 dL_law_551 rfl ?_
  refine la_iload_n C 3 dL_law_552 rfl ?_
  refine la_iconst C (v := nI 2) dL_law_553 rfl ?_
  refine la_iadd C dL_law_554 ?_
  refine la_eqi (nI_add i 2) ?_
  refine la_sld C (by omega) hn dL_law_555 ?_
  refine la_callR (As := [.int (xs (i + 1)), .int (xs (i + 2))]) (rest := (r1.toList ++ [])) C h2 ⟨rfl, rfl, Nat.le_of_ble_eq_true rfl, Nat.le_of_ble_eq_true rfl⟩ rfl wm_L_65 wi_X7_ideal ws_X7_ideal w0_X7 wc_X7_ideal nm_X7_ideal rfl rfl (la_cat r1) dL_law_556 (fun r2 I2 J2 hp2 => ?_)
  obtain ⟨⟨v, rfl, rfl⟩, hN⟩ := hq _ _ _ _ _ _ hp1 hp2
  refine la_icmp_eq C (tgt := 1030) dL_law_559 (by decide) ?_
  exact kk _ _ _ _ hN
theorem lc_12 {p : Program} {l : Launch} {e : Env} {s : State} {m : MethodId} {below : List Frame} {meth : Method} {c : Code} {b n : Nat} {xs : Nat → Int32} {D : va_G} {aI aL : ClassId} {ad ad' : Nat → Nat} {I : sa_I} {J : sa_J} {I' : sa_I} {J' : sa_J} {N : sa_I → sa_J → sa_I → sa_J → Prop} {i : Nat} (C : la_Cx p s m meth c b n xs D aI aL) (hi : i + 4 ≤ n) (hn : n < 2 ^ 31) (h : la_Step l D aI aL ad ad' N 12 (xs (i + 1)) (xs (i + 2)) (xs (i + 3)) I J I' J') (kk : ∀ I1 J1 I2 J2, N I1 J1 I2 J2 → Lat p l e s m below meth c b D aI aL ad ad' 1030 [(0, .ref b), (1, .ref (ad 0)), (2, .ref (ad' 0)), (3, .int (nI i))] [] I1 J1 I2 J2) : Lat p l e s m below meth c b D aI aL ad ad' 564 [(0, .ref b), (1, .ref (ad 0)), (2, .ref (ad' 0)), (3, .int (nI i))] [] I J I' J' := by
  obtain ⟨P1, P2, h1, h2, hq⟩ := h
  refine la_aload_n C 1 dL_law_564 rfl ?_
  refine la_aload_n C 0 dL_law_565 rfl ?_
  refine la_iload_n C 3 dL_law_566 rfl ?_
  refine la_iconst C (v := nI 1) dL_law_567 rfl ?_
  refine la_iadd C dL_law_568 ?_
  refine la_eqi (nI_add i 1) ?_
  refine la_sld C (by omega) hn dL_law_569 ?_
  refine la_aload_n C 0 dL_law_570 rfl ?_
  refine la_iload_n C 3 dL_law_571 rfl ?_
  refine la_iconst C (v := nI 2) dL_law_572 rfl ?_
  refine la_iadd C dL_law_573 ?_
  refine la_eqi (nI_add i 2) ?_
  refine la_sld C (by omega) hn dL_law_574 ?_
  refine la_aload_n C 0 dL_law_575 rfl ?_
  refine la_iload_n C 3 dL_law_576 rfl ?_
  refine la_iconst C (v := nI 3) dL_law_577 rfl ?_
  refine la_iadd C dL_law_578 ?_
  refine la_eqi (nI_add i 3) ?_
  refine la_sld C (by omega) hn dL_law_579 ?_
  refine la_callC (As := [.int (xs (i + 1)), .int (xs (i + 2)), .int (xs (i + 3))]) (rest := []) C h1 ⟨rfl, rfl, Nat.le_of_ble_eq_true rfl, Nat.le_of_ble_eq_true rfl⟩ rfl wm_L_66 wi_X6_join ws_X6_join w0_X6 wc_X6_join nm_X6_join rfl rfl (Nat.zero_le _) dL_law_580 (fun r1 I1 J1 hp1 => ?_)
  refine la_aload_n C 2 dL_law_583 rfl ?_
  refine la_aload_n C 0 dL_law_584 rfl ?_
  refine la_iload_n C 3 dL_law_585 rfl ?_
  refine la_iconst C (v := nI 1) dL_law_586 rfl ?_
  refine la_iadd C dL_law_587 ?_
  refine la_eqi (nI_add i 1) ?_
  refine la_sld C (by omega) hn dL_law_588 ?_
  refine la_aload_n C 0 dL_law_589 rfl ?_
  refine la_iload_n C 3 dL_law_590 rfl ?_
  refine la_iconst C (v := nI 2) dL_law_591 rfl ?_
  refine la_iadd C dL_law_592 ?_
  refine la_eqi (nI_add i 2) ?_
  refine la_sld C (by omega) hn dL_law_593 ?_
  refine la_aload_n C 0 dL_law_594 rfl ?_
  refine la_iload_n C 3 dL_law_595 rfl ?_
  refine la_iconst C (v := nI 3) dL_law_596 rfl ?_
  refine la_iadd C dL_law_597 ?_
  refine la_eqi (nI_add i 3) ?_
  refine la_sld C (by omega) hn dL_law_598 ?_
  refine la_callR (As := [.int (xs (i + 1)), .int (xs (i + 2)), .int (xs (i + 3))]) (rest := (r1.toList ++ [])) C h2 ⟨rfl, rfl, Nat.le_of_ble_eq_true rfl, Nat.le_of_ble_eq_true rfl⟩ rfl wm_L_69 wi_X7_join ws_X7_join w0_X7 wc_X7_join nm_X7_join rfl rfl (la_cat r1) dL_law_599 (fun r2 I2 J2 hp2 => ?_)
  obtain ⟨⟨v, rfl, rfl⟩, hN⟩ := hq _ _ _ _ _ _ hp1 hp2
  refine la_icmp_eq C (tgt := 1030) dL_law_602 (by decide) ?_
  exact kk _ _ _ _ hN
theorem lc_13 {p : Program} {l : Launch} {e : Env} {s : State} {m : MethodId} {below : List Frame} {meth : Method} {c : Code} {b n : Nat} {xs : Nat → Int32} {D : va_G} {aI aL : ClassId} {ad ad' : Nat → Nat} {I : sa_I} {J : sa_J} {I' : sa_I} {J' : sa_J} {N : sa_I → sa_J → sa_I → sa_J → Prop} {i : Nat} (C : la_Cx p s m meth c b n xs D aI aL) (hi : i + 4 ≤ n) (hn : n < 2 ^ 31) (h : la_Step l D aI aL ad ad' N 13 (xs (i + 1)) (xs (i + 2)) (xs (i + 3)) I J I' J') (kk : ∀ I1 J1 I2 J2, N I1 J1 I2 J2 → Lat p l e s m below meth c b D aI aL ad ad' 1030 [(0, .ref b), (1, .ref (ad 0)), (2, .ref (ad' 0)), (3, .int (nI i))] [] I1 J1 I2 J2) : Lat p l e s m below meth c b D aI aL ad ad' 607 [(0, .ref b), (1, .ref (ad 0)), (2, .ref (ad' 0)), (3, .int (nI i))] [] I J I' J' := by
  obtain ⟨P1, P2, h1, h2, hq⟩ := h
  refine la_aload_n C 1 dL_law_607 rfl ?_
  refine la_aload_n C 0 dL_law_608 rfl ?_
  refine la_iload_n C 3 dL_law_609 rfl ?_
  refine la_iconst C (v := nI 1) dL_law_610 rfl ?_
  refine la_iadd C dL_law_611 ?_
  refine la_eqi (nI_add i 1) ?_
  refine la_sld C (by omega) hn dL_law_612 ?_
  refine la_aload_n C 0 dL_law_613 rfl ?_
  refine la_iload_n C 3 dL_law_614 rfl ?_
  refine la_iconst C (v := nI 2) dL_law_615 rfl ?_
  refine la_iadd C dL_law_616 ?_
  refine la_eqi (nI_add i 2) ?_
  refine la_sld C (by omega) hn dL_law_617 ?_
  refine la_aload_n C 0 dL_law_618 rfl ?_
  refine la_iload_n C 3 dL_law_619 rfl ?_
  refine la_iconst C (v := nI 3) dL_law_620 rfl ?_
  refine la_iadd C dL_law_621 ?_
  refine la_eqi (nI_add i 3) ?_
  refine la_sld C (by omega) hn dL_law_622 ?_
  refine la_callC (As := [.int (xs (i + 1)), .int (xs (i + 2)), .int (xs (i + 3))]) (rest := []) C h1 ⟨rfl, rfl, Nat.le_of_ble_eq_true rfl, Nat.le_of_ble_eq_true rfl⟩ rfl wm_L_70 wi_X6_row ws_X6_row w0_X6 wc_X6_row nm_X6_row rfl rfl (Nat.zero_le _) dL_law_623 (fun r1 I1 J1 hp1 => ?_)
  refine la_aload_n C 2 dL_law_626 rfl ?_
  refine la_aload_n C 0 dL_law_627 rfl ?_
  refine la_iload_n C 3 dL_law_628 rfl ?_
  refine la_iconst C (v := nI 1) dL_law_629 rfl ?_
  refine la_iadd C dL_law_630 ?_
  refine la_eqi (nI_add i 1) ?_
  refine la_sld C (by omega) hn dL_law_631 ?_
  refine la_aload_n C 0 dL_law_632 rfl ?_
  refine la_iload_n C 3 dL_law_633 rfl ?_
  refine la_iconst C (v := nI 2) dL_law_634 rfl ?_
  refine la_iadd C dL_law_635 ?_
  refine la_eqi (nI_add i 2) ?_
  refine la_sld C (by omega) hn dL_law_636 ?_
  refine la_aload_n C 0 dL_law_637 rfl ?_
  refine la_iload_n C 3 dL_law_638 rfl ?_
  refine la_iconst C (v := nI 3) dL_law_639 rfl ?_
  refine la_iadd C dL_law_640 ?_
  refine la_eqi (nI_add i 3) ?_
  refine la_sld C (by omega) hn dL_law_641 ?_
  refine la_callR (As := [.int (xs (i + 1)), .int (xs (i + 2)), .int (xs (i + 3))]) (rest := (r1.toList ++ [])) C h2 ⟨rfl, rfl, Nat.le_of_ble_eq_true rfl, Nat.le_of_ble_eq_true rfl⟩ rfl wm_L_73 wi_X7_row ws_X7_row w0_X7 wc_X7_row nm_X7_row rfl rfl (la_cat r1) dL_law_642 (fun r2 I2 J2 hp2 => ?_)
  obtain ⟨⟨v, rfl, rfl⟩, hN⟩ := hq _ _ _ _ _ _ hp1 hp2
  refine la_icmp_eq C (tgt := 1030) dL_law_645 (by decide) ?_
  exact kk _ _ _ _ hN
theorem lc_14 {p : Program} {l : Launch} {e : Env} {s : State} {m : MethodId} {below : List Frame} {meth : Method} {c : Code} {b n : Nat} {xs : Nat → Int32} {D : va_G} {aI aL : ClassId} {ad ad' : Nat → Nat} {I : sa_I} {J : sa_J} {I' : sa_I} {J' : sa_J} {N : sa_I → sa_J → sa_I → sa_J → Prop} {i : Nat} (C : la_Cx p s m meth c b n xs D aI aL) (hi : i + 4 ≤ n) (hn : n < 2 ^ 31) (h : la_Step l D aI aL ad ad' N 14 (xs (i + 1)) (xs (i + 2)) (xs (i + 3)) I J I' J') (kk : ∀ I1 J1 I2 J2, N I1 J1 I2 J2 → Lat p l e s m below meth c b D aI aL ad ad' 1030 [(0, .ref b), (1, .ref (ad 0)), (2, .ref (ad' 0)), (3, .int (nI i))] [] I1 J1 I2 J2) : Lat p l e s m below meth c b D aI aL ad ad' 650 [(0, .ref b), (1, .ref (ad 0)), (2, .ref (ad' 0)), (3, .int (nI i))] [] I J I' J' := by
  obtain ⟨P1, P2, h1, h2, hq⟩ := h
  refine la_aload_n C 1 dL_law_650 rfl ?_
  refine la_aload_n C 0 dL_law_651 rfl ?_
  refine la_iload_n C 3 dL_law_652 rfl ?_
  refine la_iconst C (v := nI 1) dL_law_653 rfl ?_
  refine la_iadd C dL_law_654 ?_
  refine la_eqi (nI_add i 1) ?_
  refine la_sld C (by omega) hn dL_law_655 ?_
  refine la_aload_n C 0 dL_law_656 rfl ?_
  refine la_iload_n C 3 dL_law_657 rfl ?_
  refine la_iconst C (v := nI 2) dL_law_658 rfl ?_
  refine la_iadd C dL_law_659 ?_
  refine la_eqi (nI_add i 2) ?_
  refine la_sld C (by omega) hn dL_law_660 ?_
  refine la_callC (As := [.int (xs (i + 1)), .int (xs (i + 2))]) (rest := []) C h1 ⟨rfl, rfl, Nat.le_of_ble_eq_true rfl, Nat.le_of_ble_eq_true rfl⟩ rfl wm_L_74 wi_X6_idealOf ws_X6_idealOf w0_X6 wc_X6_idealOf nm_X6_idealOf rfl rfl (Nat.zero_le _) dL_law_661 (fun r1 I1 J1 hp1 => ?_)
  refine la_aload_n C 2 dL_law_664 rfl ?_
  refine la_aload_n C 0 dL_law_665 rfl ?_
  refine la_iload_n C 3 dL_law_666 rfl ?_
  refine la_iconst C (v := nI 1) dL_law_667 rfl ?_
  refine la_iadd C dL_law_668 ?_
  refine la_eqi (nI_add i 1) ?_
  refine la_sld C (by omega) hn dL_law_669 ?_
  refine la_aload_n C 0 dL_law_670 rfl ?_
  refine la_iload_n C 3 dL_law_671 rfl ?_
  refine la_iconst C (v := nI 2) dL_law_672 rfl ?_
  refine la_iadd C dL_law_673 ?_
  refine la_eqi (nI_add i 2) ?_
  refine la_sld C (by omega) hn dL_law_674 ?_
  refine la_callR (As := [.int (xs (i + 1)), .int (xs (i + 2))]) (rest := (r1.toList ++ [])) C h2 ⟨rfl, rfl, Nat.le_of_ble_eq_true rfl, Nat.le_of_ble_eq_true rfl⟩ rfl wm_L_77 wi_X7_idealOf ws_X7_idealOf w0_X7 wc_X7_idealOf nm_X7_idealOf rfl rfl (la_cat r1) dL_law_675 (fun r2 I2 J2 hp2 => ?_)
  obtain ⟨⟨v, rfl, rfl⟩, hN⟩ := hq _ _ _ _ _ _ hp1 hp2
  refine la_icmp_eq C (tgt := 1030) dL_law_678 (by decide) ?_
  exact kk _ _ _ _ hN
theorem lc_15 {p : Program} {l : Launch} {e : Env} {s : State} {m : MethodId} {below : List Frame} {meth : Method} {c : Code} {b n : Nat} {xs : Nat → Int32} {D : va_G} {aI aL : ClassId} {ad ad' : Nat → Nat} {I : sa_I} {J : sa_J} {I' : sa_I} {J' : sa_J} {N : sa_I → sa_J → sa_I → sa_J → Prop} {i : Nat} (C : la_Cx p s m meth c b n xs D aI aL) (hi : i + 4 ≤ n) (hn : n < 2 ^ 31) (h : la_Step l D aI aL ad ad' N 15 (xs (i + 1)) (xs (i + 2)) (xs (i + 3)) I J I' J') (kk : ∀ I1 J1 I2 J2, N I1 J1 I2 J2 → Lat p l e s m below meth c b D aI aL ad ad' 1030 [(0, .ref b), (1, .ref (ad 0)), (2, .ref (ad' 0)), (3, .int (nI i))] [] I1 J1 I2 J2) : Lat p l e s m below meth c b D aI aL ad ad' 683 [(0, .ref b), (1, .ref (ad 0)), (2, .ref (ad' 0)), (3, .int (nI i))] [] I J I' J' := by
  obtain ⟨P1, P2, h1, h2, hq⟩ := h
  refine la_aload_n C 1 dL_law_683 rfl ?_
  refine la_aload_n C 0 dL_law_684 rfl ?_
  refine la_iload_n C 3 dL_law_685 rfl ?_
  refine la_iconst C (v := nI 1) dL_law_686 rfl ?_
  refine la_iadd C dL_law_687 ?_
  refine la_eqi (nI_add i 1) ?_
  refine la_sld C (by omega) hn dL_law_688 ?_
  refine la_aload_n C 0 dL_law_689 rfl ?_
  refine la_iload_n C 3 dL_law_690 rfl ?_
  refine la_iconst C (v := nI 2) dL_law_691 rfl ?_
  refine la_iadd C dL_law_692 ?_
  refine la_eqi (nI_add i 2) ?_
  refine la_sld C (by omega) hn dL_law_693 ?_
  refine la_callC (As := [.int (xs (i + 1)), .int (xs (i + 2))]) (rest := []) C h1 ⟨rfl, rfl, Nat.le_of_ble_eq_true rfl, Nat.le_of_ble_eq_true rfl⟩ rfl wm_L_78 wi_X6_in ws_X6_in w0_X6 wc_X6_in nm_X6_in rfl rfl (Nat.zero_le _) dL_law_694 (fun r1 I1 J1 hp1 => ?_)
  refine la_aload_n C 2 dL_law_697 rfl ?_
  refine la_aload_n C 0 dL_law_698 rfl ?_
  refine la_iload_n C 3 dL_law_699 rfl ?_
  refine la_iconst C (v := nI 1) dL_law_700 rfl ?_
  refine la_iadd C dL_law_701 ?_
  refine la_eqi (nI_add i 1) ?_
  refine la_sld C (by omega) hn dL_law_702 ?_
  refine la_aload_n C 0 dL_law_703 rfl ?_
  refine la_iload_n C 3 dL_law_704 rfl ?_
  refine la_iconst C (v := nI 2) dL_law_705 rfl ?_
  refine la_iadd C dL_law_706 ?_
  refine la_eqi (nI_add i 2) ?_
  refine la_sld C (by omega) hn dL_law_707 ?_
  refine la_callR (As := [.int (xs (i + 1)), .int (xs (i + 2))]) (rest := (r1.toList ++ [])) C h2 ⟨rfl, rfl, Nat.le_of_ble_eq_true rfl, Nat.le_of_ble_eq_true rfl⟩ rfl wm_L_81 wi_X7_in ws_X7_in w0_X7 wc_X7_in nm_X7_in rfl rfl (la_cat r1) dL_law_708 (fun r2 I2 J2 hp2 => ?_)
  obtain ⟨⟨v, rfl, rfl⟩, hN⟩ := hq _ _ _ _ _ _ hp1 hp2
  refine la_icmp_eq C (tgt := 1030) dL_law_711 (by decide) ?_
  exact kk _ _ _ _ hN
theorem lc_16 {p : Program} {l : Launch} {e : Env} {s : State} {m : MethodId} {below : List Frame} {meth : Method} {c : Code} {b n : Nat} {xs : Nat → Int32} {D : va_G} {aI aL : ClassId} {ad ad' : Nat → Nat} {I : sa_I} {J : sa_J} {I' : sa_I} {J' : sa_J} {N : sa_I → sa_J → sa_I → sa_J → Prop} {i : Nat} (C : la_Cx p s m meth c b n xs D aI aL) (hi : i + 4 ≤ n) (hn : n < 2 ^ 31) (h : la_Step l D aI aL ad ad' N 16 (xs (i + 1)) (xs (i + 2)) (xs (i + 3)) I J I' J') (kk : ∀ I1 J1 I2 J2, N I1 J1 I2 J2 → Lat p l e s m below meth c b D aI aL ad ad' 1030 [(0, .ref b), (1, .ref (ad 0)), (2, .ref (ad' 0)), (3, .int (nI i))] [] I1 J1 I2 J2) : Lat p l e s m below meth c b D aI aL ad ad' 716 [(0, .ref b), (1, .ref (ad 0)), (2, .ref (ad' 0)), (3, .int (nI i))] [] I J I' J' := by
  obtain ⟨P1, P2, h1, h2, hq⟩ := h
  refine la_aload_n C 1 dL_law_716 rfl ?_
  refine la_aload_n C 0 dL_law_717 rfl ?_
  refine la_iload_n C 3 dL_law_718 rfl ?_
  refine la_iconst C (v := nI 1) dL_law_719 rfl ?_
  refine la_iadd C dL_law_720 ?_
  refine la_eqi (nI_add i 1) ?_
  refine la_sld C (by omega) hn dL_law_721 ?_
  refine la_aload_n C 0 dL_law_722 rfl ?_
  refine la_iload_n C 3 dL_law_723 rfl ?_
  refine la_iconst C (v := nI 2) dL_law_724 rfl ?_
  refine la_iadd C dL_law_725 ?_
  refine la_eqi (nI_add i 2) ?_
  refine la_sld C (by omega) hn dL_law_726 ?_
  refine la_callC (As := [.int (xs (i + 1)), .int (xs (i + 2))]) (rest := []) C h1 ⟨rfl, rfl, Nat.le_of_ble_eq_true rfl, Nat.le_of_ble_eq_true rfl⟩ rfl wm_L_82 wi_X6_divides ws_X6_divides w0_X6 wc_X6_divides nm_X6_divides rfl rfl (Nat.zero_le _) dL_law_727 (fun r1 I1 J1 hp1 => ?_)
  refine la_aload_n C 2 dL_law_730 rfl ?_
  refine la_aload_n C 0 dL_law_731 rfl ?_
  refine la_iload_n C 3 dL_law_732 rfl ?_
  refine la_iconst C (v := nI 1) dL_law_733 rfl ?_
  refine la_iadd C dL_law_734 ?_
  refine la_eqi (nI_add i 1) ?_
  refine la_sld C (by omega) hn dL_law_735 ?_
  refine la_aload_n C 0 dL_law_736 rfl ?_
  refine la_iload_n C 3 dL_law_737 rfl ?_
  refine la_iconst C (v := nI 2) dL_law_738 rfl ?_
  refine la_iadd C dL_law_739 ?_
  refine la_eqi (nI_add i 2) ?_
  refine la_sld C (by omega) hn dL_law_740 ?_
  refine la_callR (As := [.int (xs (i + 1)), .int (xs (i + 2))]) (rest := (r1.toList ++ [])) C h2 ⟨rfl, rfl, Nat.le_of_ble_eq_true rfl, Nat.le_of_ble_eq_true rfl⟩ rfl wm_L_85 wi_X7_divides ws_X7_divides w0_X7 wc_X7_divides nm_X7_divides rfl rfl (la_cat r1) dL_law_741 (fun r2 I2 J2 hp2 => ?_)
  obtain ⟨⟨v, rfl, rfl⟩, hN⟩ := hq _ _ _ _ _ _ hp1 hp2
  refine la_icmp_eq C (tgt := 1030) dL_law_744 (by decide) ?_
  exact kk _ _ _ _ hN
theorem lc_17 {p : Program} {l : Launch} {e : Env} {s : State} {m : MethodId} {below : List Frame} {meth : Method} {c : Code} {b n : Nat} {xs : Nat → Int32} {D : va_G} {aI aL : ClassId} {ad ad' : Nat → Nat} {I : sa_I} {J : sa_J} {I' : sa_I} {J' : sa_J} {N : sa_I → sa_J → sa_I → sa_J → Prop} {i : Nat} (C : la_Cx p s m meth c b n xs D aI aL) (hi : i + 4 ≤ n) (hn : n < 2 ^ 31) (h : la_Step l D aI aL ad ad' N 17 (xs (i + 1)) (xs (i + 2)) (xs (i + 3)) I J I' J') (kk : ∀ I1 J1 I2 J2, N I1 J1 I2 J2 → Lat p l e s m below meth c b D aI aL ad ad' 1030 [(0, .ref b), (1, .ref (ad 0)), (2, .ref (ad' 0)), (3, .int (nI i))] [] I1 J1 I2 J2) : Lat p l e s m below meth c b D aI aL ad ad' 749 [(0, .ref b), (1, .ref (ad 0)), (2, .ref (ad' 0)), (3, .int (nI i))] [] I J I' J' := by
  obtain ⟨P1, P2, h1, h2, hq⟩ := h
  refine la_aload_n C 1 dL_law_749 rfl ?_
  refine la_aload_n C 0 dL_law_750 rfl ?_
  refine la_iload_n C 3 dL_law_751 rfl ?_
  refine la_iconst C (v := nI 1) dL_law_752 rfl ?_
  refine la_iadd C dL_law_753 ?_
  refine la_eqi (nI_add i 1) ?_
  refine la_sld C (by omega) hn dL_law_754 ?_
  refine la_callC (As := [.int (xs (i + 1))]) (rest := []) C h1 ⟨rfl, rfl, Nat.le_of_ble_eq_true rfl, Nat.le_of_ble_eq_true rfl⟩ rfl wm_L_86 wi_X6_primes ws_X6_primes w0_X6 wc_X6_primes nm_X6_primes rfl rfl (Nat.zero_le _) dL_law_755 (fun r1 I1 J1 hp1 => ?_)
  refine la_aload_n C 2 dL_law_758 rfl ?_
  refine la_aload_n C 0 dL_law_759 rfl ?_
  refine la_iload_n C 3 dL_law_760 rfl ?_
  refine la_iconst C (v := nI 1) dL_law_761 rfl ?_
  refine la_iadd C dL_law_762 ?_
  refine la_eqi (nI_add i 1) ?_
  refine la_sld C (by omega) hn dL_law_763 ?_
  refine la_callR (As := [.int (xs (i + 1))]) (rest := (r1.toList ++ [])) C h2 ⟨rfl, rfl, Nat.le_of_ble_eq_true rfl, Nat.le_of_ble_eq_true rfl⟩ rfl wm_L_89 wi_X7_primes ws_X7_primes w0_X7 wc_X7_primes nm_X7_primes rfl rfl (la_cat r1) dL_law_764 (fun r2 I2 J2 hp2 => ?_)
  obtain ⟨⟨v, rfl, rfl⟩, hN⟩ := hq _ _ _ _ _ _ hp1 hp2
  refine la_icmp_eq C (tgt := 1030) dL_law_767 (by decide) ?_
  exact kk _ _ _ _ hN
theorem lc_18 {p : Program} {l : Launch} {e : Env} {s : State} {m : MethodId} {below : List Frame} {meth : Method} {c : Code} {b n : Nat} {xs : Nat → Int32} {D : va_G} {aI aL : ClassId} {ad ad' : Nat → Nat} {I : sa_I} {J : sa_J} {I' : sa_I} {J' : sa_J} {N : sa_I → sa_J → sa_I → sa_J → Prop} {i : Nat} (C : la_Cx p s m meth c b n xs D aI aL) (hi : i + 4 ≤ n) (hn : n < 2 ^ 31) (h : la_Step l D aI aL ad ad' N 18 (xs (i + 1)) (xs (i + 2)) (xs (i + 3)) I J I' J') (kk : ∀ I1 J1 I2 J2, N I1 J1 I2 J2 → Lat p l e s m below meth c b D aI aL ad ad' 1030 [(0, .ref b), (1, .ref (ad 0)), (2, .ref (ad' 0)), (3, .int (nI i))] [] I1 J1 I2 J2) : Lat p l e s m below meth c b D aI aL ad ad' 772 [(0, .ref b), (1, .ref (ad 0)), (2, .ref (ad' 0)), (3, .int (nI i))] [] I J I' J' := by
  obtain ⟨P1, P2, h1, h2, hq⟩ := h
  refine la_aload_n C 1 dL_law_772 rfl ?_
  refine la_aload_n C 0 dL_law_773 rfl ?_
  refine la_iload_n C 3 dL_law_774 rfl ?_
  refine la_iconst C (v := nI 1) dL_law_775 rfl ?_
  refine la_iadd C dL_law_776 ?_
  refine la_eqi (nI_add i 1) ?_
  refine la_sld C (by omega) hn dL_law_777 ?_
  refine la_aload_n C 0 dL_law_778 rfl ?_
  refine la_iload_n C 3 dL_law_779 rfl ?_
  refine la_iconst C (v := nI 2) dL_law_780 rfl ?_
  refine la_iadd C dL_law_781 ?_
  refine la_eqi (nI_add i 2) ?_
  refine la_sld C (by omega) hn dL_law_782 ?_
  refine la_aload_n C 0 dL_law_783 rfl ?_
  refine la_iload_n C 3 dL_law_784 rfl ?_
  refine la_iconst C (v := nI 3) dL_law_785 rfl ?_
  refine la_iadd C dL_law_786 ?_
  refine la_eqi (nI_add i 3) ?_
  refine la_sld C (by omega) hn dL_law_787 ?_
  refine la_callC (As := [.int (xs (i + 1)), .int (xs (i + 2)), .int (xs (i + 3))]) (rest := []) C h1 ⟨rfl, rfl, Nat.le_of_ble_eq_true rfl, Nat.le_of_ble_eq_true rfl⟩ rfl wm_L_90 wi_X6_prime ws_X6_prime w0_X6 wc_X6_prime nm_X6_prime rfl rfl (Nat.zero_le _) dL_law_788 (fun r1 I1 J1 hp1 => ?_)
  refine la_aload_n C 2 dL_law_791 rfl ?_
  refine la_aload_n C 0 dL_law_792 rfl ?_
  refine la_iload_n C 3 dL_law_793 rfl ?_
  refine la_iconst C (v := nI 1) dL_law_794 rfl ?_
  refine la_iadd C dL_law_795 ?_
  refine la_eqi (nI_add i 1) ?_
  refine la_sld C (by omega) hn dL_law_796 ?_
  refine la_aload_n C 0 dL_law_797 rfl ?_
  refine la_iload_n C 3 dL_law_798 rfl ?_
  refine la_iconst C (v := nI 2) dL_law_799 rfl ?_
  refine la_iadd C dL_law_800 ?_
  refine la_eqi (nI_add i 2) ?_
  refine la_sld C (by omega) hn dL_law_801 ?_
  refine la_aload_n C 0 dL_law_802 rfl ?_
  refine la_iload_n C 3 dL_law_803 rfl ?_
  refine la_iconst C (v := nI 3) dL_law_804 rfl ?_
  refine la_iadd C dL_law_805 ?_
  refine la_eqi (nI_add i 3) ?_
  refine la_sld C (by omega) hn dL_law_806 ?_
  refine la_callR (As := [.int (xs (i + 1)), .int (xs (i + 2)), .int (xs (i + 3))]) (rest := (r1.toList ++ [])) C h2 ⟨rfl, rfl, Nat.le_of_ble_eq_true rfl, Nat.le_of_ble_eq_true rfl⟩ rfl wm_L_93 wi_X7_prime ws_X7_prime w0_X7 wc_X7_prime nm_X7_prime rfl rfl (la_cat r1) dL_law_807 (fun r2 I2 J2 hp2 => ?_)
  obtain ⟨⟨v, rfl, rfl⟩, hN⟩ := hq _ _ _ _ _ _ hp1 hp2
  refine la_icmp_eq C (tgt := 1030) dL_law_810 (by decide) ?_
  exact kk _ _ _ _ hN
theorem lc_19 {p : Program} {l : Launch} {e : Env} {s : State} {m : MethodId} {below : List Frame} {meth : Method} {c : Code} {b n : Nat} {xs : Nat → Int32} {D : va_G} {aI aL : ClassId} {ad ad' : Nat → Nat} {I : sa_I} {J : sa_J} {I' : sa_I} {J' : sa_J} {N : sa_I → sa_J → sa_I → sa_J → Prop} {i : Nat} (C : la_Cx p s m meth c b n xs D aI aL) (hi : i + 4 ≤ n) (hn : n < 2 ^ 31) (h : la_Step l D aI aL ad ad' N 19 (xs (i + 1)) (xs (i + 2)) (xs (i + 3)) I J I' J') (kk : ∀ I1 J1 I2 J2, N I1 J1 I2 J2 → Lat p l e s m below meth c b D aI aL ad ad' 1030 [(0, .ref b), (1, .ref (ad 0)), (2, .ref (ad' 0)), (3, .int (nI i))] [] I1 J1 I2 J2) : Lat p l e s m below meth c b D aI aL ad ad' 815 [(0, .ref b), (1, .ref (ad 0)), (2, .ref (ad' 0)), (3, .int (nI i))] [] I J I' J' := by
  obtain ⟨P1, P2, h1, h2, hq⟩ := h
  refine la_aload_n C 1 dL_law_815 rfl ?_
  refine la_aload_n C 0 dL_law_816 rfl ?_
  refine la_iload_n C 3 dL_law_817 rfl ?_
  refine la_iconst C (v := nI 1) dL_law_818 rfl ?_
  refine la_iadd C dL_law_819 ?_
  refine la_eqi (nI_add i 1) ?_
  refine la_sld C (by omega) hn dL_law_820 ?_
  refine la_aload_n C 0 dL_law_821 rfl ?_
  refine la_iload_n C 3 dL_law_822 rfl ?_
  refine la_iconst C (v := nI 2) dL_law_823 rfl ?_
  refine la_iadd C dL_law_824 ?_
  refine la_eqi (nI_add i 2) ?_
  refine la_sld C (by omega) hn dL_law_825 ?_
  refine la_callC (As := [.int (xs (i + 1)), .int (xs (i + 2))]) (rest := []) C h1 ⟨rfl, rfl, Nat.le_of_ble_eq_true rfl, Nat.le_of_ble_eq_true rfl⟩ rfl wm_L_94 wi_X6_take ws_X6_take w0_X6 wc_X6_take nm_X6_take rfl rfl (Nat.zero_le _) dL_law_826 (fun r1 I1 J1 hp1 => ?_)
  refine la_aload_n C 2 dL_law_829 rfl ?_
  refine la_aload_n C 0 dL_law_830 rfl ?_
  refine la_iload_n C 3 dL_law_831 rfl ?_
  refine la_iconst C (v := nI 1) dL_law_832 rfl ?_
  refine la_iadd C dL_law_833 ?_
  refine la_eqi (nI_add i 1) ?_
  refine la_sld C (by omega) hn dL_law_834 ?_
  refine la_aload_n C 0 dL_law_835 rfl ?_
  refine la_iload_n C 3 dL_law_836 rfl ?_
  refine la_iconst C (v := nI 2) dL_law_837 rfl ?_
  refine la_iadd C dL_law_838 ?_
  refine la_eqi (nI_add i 2) ?_
  refine la_sld C (by omega) hn dL_law_839 ?_
  refine la_callR (As := [.int (xs (i + 1)), .int (xs (i + 2))]) (rest := (r1.toList ++ [])) C h2 ⟨rfl, rfl, Nat.le_of_ble_eq_true rfl, Nat.le_of_ble_eq_true rfl⟩ rfl wm_L_97 wi_X7_take ws_X7_take w0_X7 wc_X7_take nm_X7_take rfl rfl (la_cat r1) dL_law_840 (fun r2 I2 J2 hp2 => ?_)
  obtain ⟨⟨v, rfl, rfl⟩, hN⟩ := hq _ _ _ _ _ _ hp1 hp2
  refine la_icmp_eq C (tgt := 1030) dL_law_843 (by decide) ?_
  exact kk _ _ _ _ hN
theorem lc_20 {p : Program} {l : Launch} {e : Env} {s : State} {m : MethodId} {below : List Frame} {meth : Method} {c : Code} {b n : Nat} {xs : Nat → Int32} {D : va_G} {aI aL : ClassId} {ad ad' : Nat → Nat} {I : sa_I} {J : sa_J} {I' : sa_I} {J' : sa_J} {N : sa_I → sa_J → sa_I → sa_J → Prop} {i : Nat} (C : la_Cx p s m meth c b n xs D aI aL) (hi : i + 4 ≤ n) (hn : n < 2 ^ 31) (h : la_Step l D aI aL ad ad' N 20 (xs (i + 1)) (xs (i + 2)) (xs (i + 3)) I J I' J') (kk : ∀ I1 J1 I2 J2, N I1 J1 I2 J2 → Lat p l e s m below meth c b D aI aL ad ad' 1030 [(0, .ref b), (1, .ref (ad 0)), (2, .ref (ad' 0)), (3, .int (nI i))] [] I1 J1 I2 J2) : Lat p l e s m below meth c b D aI aL ad ad' 848 [(0, .ref b), (1, .ref (ad 0)), (2, .ref (ad' 0)), (3, .int (nI i))] [] I J I' J' := by
  obtain ⟨P1, P2, h1, h2, hq⟩ := h
  refine la_aload_n C 1 dL_law_848 rfl ?_
  refine la_aload_n C 0 dL_law_849 rfl ?_
  refine la_iload_n C 3 dL_law_850 rfl ?_
  refine la_iconst C (v := nI 1) dL_law_851 rfl ?_
  refine la_iadd C dL_law_852 ?_
  refine la_eqi (nI_add i 1) ?_
  refine la_sld C (by omega) hn dL_law_853 ?_
  refine la_aload_n C 0 dL_law_854 rfl ?_
  refine la_iload_n C 3 dL_law_855 rfl ?_
  refine la_iconst C (v := nI 2) dL_law_856 rfl ?_
  refine la_iadd C dL_law_857 ?_
  refine la_eqi (nI_add i 2) ?_
  refine la_sld C (by omega) hn dL_law_858 ?_
  refine la_aload_n C 0 dL_law_859 rfl ?_
  refine la_iload_n C 3 dL_law_860 rfl ?_
  refine la_iconst C (v := nI 3) dL_law_861 rfl ?_
  refine la_iadd C dL_law_862 ?_
  refine la_eqi (nI_add i 3) ?_
  refine la_sld C (by omega) hn dL_law_863 ?_
  refine la_callC (As := [.int (xs (i + 1)), .int (xs (i + 2)), .int (xs (i + 3))]) (rest := []) C h1 ⟨rfl, rfl, Nat.le_of_ble_eq_true rfl, Nat.le_of_ble_eq_true rfl⟩ rfl wm_L_98 wi_X6_times ws_X6_times w0_X6 wc_X6_times nm_X6_times rfl rfl (Nat.zero_le _) dL_law_864 (fun r1 I1 J1 hp1 => ?_)
  refine la_aload_n C 2 dL_law_867 rfl ?_
  refine la_aload_n C 0 dL_law_868 rfl ?_
  refine la_iload_n C 3 dL_law_869 rfl ?_
  refine la_iconst C (v := nI 1) dL_law_870 rfl ?_
  refine la_iadd C dL_law_871 ?_
  refine la_eqi (nI_add i 1) ?_
  refine la_sld C (by omega) hn dL_law_872 ?_
  refine la_aload_n C 0 dL_law_873 rfl ?_
  refine la_iload_n C 3 dL_law_874 rfl ?_
  refine la_iconst C (v := nI 2) dL_law_875 rfl ?_
  refine la_iadd C dL_law_876 ?_
  refine la_eqi (nI_add i 2) ?_
  refine la_sld C (by omega) hn dL_law_877 ?_
  refine la_aload_n C 0 dL_law_878 rfl ?_
  refine la_iload_n C 3 dL_law_879 rfl ?_
  refine la_iconst C (v := nI 3) dL_law_880 rfl ?_
  refine la_iadd C dL_law_881 ?_
  refine la_eqi (nI_add i 3) ?_
  refine la_sld C (by omega) hn dL_law_882 ?_
  refine la_callR (As := [.int (xs (i + 1)), .int (xs (i + 2)), .int (xs (i + 3))]) (rest := (r1.toList ++ [])) C h2 ⟨rfl, rfl, Nat.le_of_ble_eq_true rfl, Nat.le_of_ble_eq_true rfl⟩ rfl wm_L_101 wi_X7_times ws_X7_times w0_X7 wc_X7_times nm_X7_times rfl rfl (la_cat r1) dL_law_883 (fun r2 I2 J2 hp2 => ?_)
  obtain ⟨⟨v, rfl, rfl⟩, hN⟩ := hq _ _ _ _ _ _ hp1 hp2
  refine la_icmp_eq C (tgt := 1030) dL_law_886 (by decide) ?_
  exact kk _ _ _ _ hN
theorem lc_21 {p : Program} {l : Launch} {e : Env} {s : State} {m : MethodId} {below : List Frame} {meth : Method} {c : Code} {b n : Nat} {xs : Nat → Int32} {D : va_G} {aI aL : ClassId} {ad ad' : Nat → Nat} {I : sa_I} {J : sa_J} {I' : sa_I} {J' : sa_J} {N : sa_I → sa_J → sa_I → sa_J → Prop} {i : Nat} (C : la_Cx p s m meth c b n xs D aI aL) (hi : i + 4 ≤ n) (hn : n < 2 ^ 31) (h : la_Step l D aI aL ad ad' N 21 (xs (i + 1)) (xs (i + 2)) (xs (i + 3)) I J I' J') (kk : ∀ I1 J1 I2 J2, N I1 J1 I2 J2 → Lat p l e s m below meth c b D aI aL ad ad' 1030 [(0, .ref b), (1, .ref (ad 0)), (2, .ref (ad' 0)), (3, .int (nI i))] [] I1 J1 I2 J2) : Lat p l e s m below meth c b D aI aL ad ad' 891 [(0, .ref b), (1, .ref (ad 0)), (2, .ref (ad' 0)), (3, .int (nI i))] [] I J I' J' := by
  obtain ⟨P1, P2, h1, h2, hq⟩ := h
  refine la_aload_n C 1 dL_law_891 rfl ?_
  refine la_callC (As := []) (rest := []) C h1 ⟨rfl, rfl, Nat.le_of_ble_eq_true rfl, Nat.le_of_ble_eq_true rfl⟩ rfl wm_L_102 wi_X6_classes ws_X6_classes w0_X6 wc_X6_classes nm_X6_classes rfl rfl (Nat.zero_le _) dL_law_892 (fun r1 I1 J1 hp1 => ?_)
  refine la_aload_n C 2 dL_law_895 rfl ?_
  refine la_callR (As := []) (rest := (r1.toList ++ [])) C h2 ⟨rfl, rfl, Nat.le_of_ble_eq_true rfl, Nat.le_of_ble_eq_true rfl⟩ rfl wm_L_106 wi_X7_classes ws_X7_classes w0_X7 wc_X7_classes nm_X7_classes rfl rfl (la_cat r1) dL_law_896 (fun r2 I2 J2 hp2 => ?_)
  obtain ⟨⟨v, rfl, rfl⟩, hN⟩ := hq _ _ _ _ _ _ hp1 hp2
  refine la_icmp_eq C (tgt := 1030) dL_law_899 (by decide) ?_
  exact kk _ _ _ _ hN
theorem lc_22 {p : Program} {l : Launch} {e : Env} {s : State} {m : MethodId} {below : List Frame} {meth : Method} {c : Code} {b n : Nat} {xs : Nat → Int32} {D : va_G} {aI aL : ClassId} {ad ad' : Nat → Nat} {I : sa_I} {J : sa_J} {I' : sa_I} {J' : sa_J} {N : sa_I → sa_J → sa_I → sa_J → Prop} {i : Nat} (C : la_Cx p s m meth c b n xs D aI aL) (hi : i + 4 ≤ n) (hn : n < 2 ^ 31) (h : la_Step l D aI aL ad ad' N 22 (xs (i + 1)) (xs (i + 2)) (xs (i + 3)) I J I' J') (kk : ∀ I1 J1 I2 J2, N I1 J1 I2 J2 → Lat p l e s m below meth c b D aI aL ad ad' 1030 [(0, .ref b), (1, .ref (ad 0)), (2, .ref (ad' 0)), (3, .int (nI i))] [] I1 J1 I2 J2) : Lat p l e s m below meth c b D aI aL ad ad' 904 [(0, .ref b), (1, .ref (ad 0)), (2, .ref (ad' 0)), (3, .int (nI i))] [] I J I' J' := by
  obtain ⟨P1, P2, h1, h2, hq⟩ := h
  refine la_aload_n C 1 dL_law_904 rfl ?_
  refine la_aload_n C 0 dL_law_905 rfl ?_
  refine la_iload_n C 3 dL_law_906 rfl ?_
  refine la_iconst C (v := nI 1) dL_law_907 rfl ?_
  refine la_iadd C dL_law_908 ?_
  refine la_eqi (nI_add i 1) ?_
  refine la_sld C (by omega) hn dL_law_909 ?_
  refine la_aload_n C 0 dL_law_910 rfl ?_
  refine la_iload_n C 3 dL_law_911 rfl ?_
  refine la_iconst C (v := nI 2) dL_law_912 rfl ?_
  refine la_iadd C dL_law_913 ?_
  refine la_eqi (nI_add i 2) ?_
  refine la_sld C (by omega) hn dL_law_914 ?_
  refine la_callC (As := [.int (xs (i + 1)), .int (xs (i + 2))]) (rest := []) C h1 ⟨rfl, rfl, Nat.le_of_ble_eq_true rfl, Nat.le_of_ble_eq_true rfl⟩ rfl wm_L_107 wi_X6_form ws_X6_form w0_X6 wc_X6_form nm_X6_form rfl rfl (Nat.zero_le _) dL_law_915 (fun r1 I1 J1 hp1 => ?_)
  refine la_aload_n C 2 dL_law_918 rfl ?_
  refine la_aload_n C 0 dL_law_919 rfl ?_
  refine la_iload_n C 3 dL_law_920 rfl ?_
  refine la_iconst C (v := nI 1) dL_law_921 rfl ?_
  refine la_iadd C dL_law_922 ?_
  refine la_eqi (nI_add i 1) ?_
  refine la_sld C (by omega) hn dL_law_923 ?_
  refine la_aload_n C 0 dL_law_924 rfl ?_
  refine la_iload_n C 3 dL_law_925 rfl ?_
  refine la_iconst C (v := nI 2) dL_law_926 rfl ?_
  refine la_iadd C dL_law_927 ?_
  refine la_eqi (nI_add i 2) ?_
  refine la_sld C (by omega) hn dL_law_928 ?_
  refine la_callR (As := [.int (xs (i + 1)), .int (xs (i + 2))]) (rest := (r1.toList ++ [])) C h2 ⟨rfl, rfl, Nat.le_of_ble_eq_true rfl, Nat.le_of_ble_eq_true rfl⟩ rfl wm_L_110 wi_X7_form ws_X7_form w0_X7 wc_X7_form nm_X7_form rfl rfl (la_cat r1) dL_law_929 (fun r2 I2 J2 hp2 => ?_)
  obtain ⟨⟨v, rfl, rfl⟩, hN⟩ := hq _ _ _ _ _ _ hp1 hp2
  refine la_icmp_eq C (tgt := 1030) dL_law_932 (by decide) ?_
  exact kk _ _ _ _ hN
theorem lc_23 {p : Program} {l : Launch} {e : Env} {s : State} {m : MethodId} {below : List Frame} {meth : Method} {c : Code} {b n : Nat} {xs : Nat → Int32} {D : va_G} {aI aL : ClassId} {ad ad' : Nat → Nat} {I : sa_I} {J : sa_J} {I' : sa_I} {J' : sa_J} {N : sa_I → sa_J → sa_I → sa_J → Prop} {i : Nat} (C : la_Cx p s m meth c b n xs D aI aL) (hi : i + 4 ≤ n) (hn : n < 2 ^ 31) (h : la_Step l D aI aL ad ad' N 23 (xs (i + 1)) (xs (i + 2)) (xs (i + 3)) I J I' J') (kk : ∀ I1 J1 I2 J2, N I1 J1 I2 J2 → Lat p l e s m below meth c b D aI aL ad ad' 1030 [(0, .ref b), (1, .ref (ad 0)), (2, .ref (ad' 0)), (3, .int (nI i))] [] I1 J1 I2 J2) : Lat p l e s m below meth c b D aI aL ad ad' 937 [(0, .ref b), (1, .ref (ad 0)), (2, .ref (ad' 0)), (3, .int (nI i))] [] I J I' J' := by
  obtain ⟨P1, P2, h1, h2, hq⟩ := h
  refine la_aload_n C 1 dL_law_937 rfl ?_
  refine la_aload_n C 0 dL_law_938 rfl ?_
  refine la_iload_n C 3 dL_law_939 rfl ?_
  refine la_iconst C (v := nI 1) dL_law_940 rfl ?_
  refine la_iadd C dL_law_941 ?_
  refine la_eqi (nI_add i 1) ?_
  refine la_sld C (by omega) hn dL_law_942 ?_
  refine la_callC (As := [.int (xs (i + 1))]) (rest := []) C h1 ⟨rfl, rfl, Nat.le_of_ble_eq_true rfl, Nat.le_of_ble_eq_true rfl⟩ rfl wm_L_111 wi_X6_classOf ws_X6_classOf w0_X6 wc_X6_classOf nm_X6_classOf rfl rfl (Nat.zero_le _) dL_law_943 (fun r1 I1 J1 hp1 => ?_)
  refine la_aload_n C 2 dL_law_946 rfl ?_
  refine la_aload_n C 0 dL_law_947 rfl ?_
  refine la_iload_n C 3 dL_law_948 rfl ?_
  refine la_iconst C (v := nI 1) dL_law_949 rfl ?_
  refine la_iadd C dL_law_950 ?_
  refine la_eqi (nI_add i 1) ?_
  refine la_sld C (by omega) hn dL_law_951 ?_
  refine la_callR (As := [.int (xs (i + 1))]) (rest := (r1.toList ++ [])) C h2 ⟨rfl, rfl, Nat.le_of_ble_eq_true rfl, Nat.le_of_ble_eq_true rfl⟩ rfl wm_L_114 wi_X7_classOf ws_X7_classOf w0_X7 wc_X7_classOf nm_X7_classOf rfl rfl (la_cat r1) dL_law_952 (fun r2 I2 J2 hp2 => ?_)
  obtain ⟨⟨v, rfl, rfl⟩, hN⟩ := hq _ _ _ _ _ _ hp1 hp2
  refine la_icmp_eq C (tgt := 1030) dL_law_955 (by decide) ?_
  exact kk _ _ _ _ hN
theorem lc_24 {p : Program} {l : Launch} {e : Env} {s : State} {m : MethodId} {below : List Frame} {meth : Method} {c : Code} {b n : Nat} {xs : Nat → Int32} {D : va_G} {aI aL : ClassId} {ad ad' : Nat → Nat} {I : sa_I} {J : sa_J} {I' : sa_I} {J' : sa_J} {N : sa_I → sa_J → sa_I → sa_J → Prop} {i : Nat} (C : la_Cx p s m meth c b n xs D aI aL) (hi : i + 4 ≤ n) (hn : n < 2 ^ 31) (h : la_Step l D aI aL ad ad' N 24 (xs (i + 1)) (xs (i + 2)) (xs (i + 3)) I J I' J') (kk : ∀ I1 J1 I2 J2, N I1 J1 I2 J2 → Lat p l e s m below meth c b D aI aL ad ad' 1030 [(0, .ref b), (1, .ref (ad 0)), (2, .ref (ad' 0)), (3, .int (nI i))] [] I1 J1 I2 J2) : Lat p l e s m below meth c b D aI aL ad ad' 960 [(0, .ref b), (1, .ref (ad 0)), (2, .ref (ad' 0)), (3, .int (nI i))] [] I J I' J' := by
  obtain ⟨P1, P2, h1, h2, hq⟩ := h
  refine la_aload_n C 1 dL_law_960 rfl ?_
  refine la_aload_n C 0 dL_law_961 rfl ?_
  refine la_iload_n C 3 dL_law_962 rfl ?_
  refine la_iconst C (v := nI 1) dL_law_963 rfl ?_
  refine la_iadd C dL_law_964 ?_
  refine la_eqi (nI_add i 1) ?_
  refine la_sld C (by omega) hn dL_law_965 ?_
  refine la_callC (As := [.int (xs (i + 1))]) (rest := []) C h1 ⟨rfl, rfl, Nat.le_of_ble_eq_true rfl, Nat.le_of_ble_eq_true rfl⟩ rfl wm_L_115 wi_X6_order ws_X6_order w0_X6 wc_X6_order nm_X6_order rfl rfl (Nat.zero_le _) dL_law_966 (fun r1 I1 J1 hp1 => ?_)
  refine la_aload_n C 2 dL_law_969 rfl ?_
  refine la_aload_n C 0 dL_law_970 rfl ?_
  refine la_iload_n C 3 dL_law_971 rfl ?_
  refine la_iconst C (v := nI 1) dL_law_972 rfl ?_
  refine la_iadd C dL_law_973 ?_
  refine la_eqi (nI_add i 1) ?_
  refine la_sld C (by omega) hn dL_law_974 ?_
  refine la_callR (As := [.int (xs (i + 1))]) (rest := (r1.toList ++ [])) C h2 ⟨rfl, rfl, Nat.le_of_ble_eq_true rfl, Nat.le_of_ble_eq_true rfl⟩ rfl wm_L_118 wi_X7_order ws_X7_order w0_X7 wc_X7_order nm_X7_order rfl rfl (la_cat r1) dL_law_975 (fun r2 I2 J2 hp2 => ?_)
  obtain ⟨⟨v, rfl, rfl⟩, hN⟩ := hq _ _ _ _ _ _ hp1 hp2
  refine la_icmp_eq C (tgt := 1030) dL_law_978 (by decide) ?_
  exact kk _ _ _ _ hN
theorem lc_25 {p : Program} {l : Launch} {e : Env} {s : State} {m : MethodId} {below : List Frame} {meth : Method} {c : Code} {b n : Nat} {xs : Nat → Int32} {D : va_G} {aI aL : ClassId} {ad ad' : Nat → Nat} {I : sa_I} {J : sa_J} {I' : sa_I} {J' : sa_J} {N : sa_I → sa_J → sa_I → sa_J → Prop} {i : Nat} (C : la_Cx p s m meth c b n xs D aI aL) (hi : i + 4 ≤ n) (hn : n < 2 ^ 31) (h : la_Step l D aI aL ad ad' N 25 (xs (i + 1)) (xs (i + 2)) (xs (i + 3)) I J I' J') (kk : ∀ I1 J1 I2 J2, N I1 J1 I2 J2 → Lat p l e s m below meth c b D aI aL ad ad' 1030 [(0, .ref b), (1, .ref (ad 0)), (2, .ref (ad' 0)), (3, .int (nI i))] [] I1 J1 I2 J2) : Lat p l e s m below meth c b D aI aL ad ad' 983 [(0, .ref b), (1, .ref (ad 0)), (2, .ref (ad' 0)), (3, .int (nI i))] [] I J I' J' := by
  obtain ⟨P1, P2, h1, h2, hq⟩ := h
  refine la_aload_n C 1 dL_law_983 rfl ?_
  refine la_aload_n C 0 dL_law_984 rfl ?_
  refine la_iload_n C 3 dL_law_985 rfl ?_
  refine la_iconst C (v := nI 1) dL_law_986 rfl ?_
  refine la_iadd C dL_law_987 ?_
  refine la_eqi (nI_add i 1) ?_
  refine la_sld C (by omega) hn dL_law_988 ?_
  refine la_callC (As := [.int (xs (i + 1))]) (rest := []) C h1 ⟨rfl, rfl, Nat.le_of_ble_eq_true rfl, Nat.le_of_ble_eq_true rfl⟩ rfl wm_L_119 wi_X6_first ws_X6_first w0_X6 wc_X6_first nm_X6_first rfl rfl (Nat.zero_le _) dL_law_989 (fun r1 I1 J1 hp1 => ?_)
  refine la_aload_n C 2 dL_law_992 rfl ?_
  refine la_aload_n C 0 dL_law_993 rfl ?_
  refine la_iload_n C 3 dL_law_994 rfl ?_
  refine la_iconst C (v := nI 1) dL_law_995 rfl ?_
  refine la_iadd C dL_law_996 ?_
  refine la_eqi (nI_add i 1) ?_
  refine la_sld C (by omega) hn dL_law_997 ?_
  refine la_callR (As := [.int (xs (i + 1))]) (rest := (r1.toList ++ [])) C h2 ⟨rfl, rfl, Nat.le_of_ble_eq_true rfl, Nat.le_of_ble_eq_true rfl⟩ rfl wm_L_122 wi_X7_first ws_X7_first w0_X7 wc_X7_first nm_X7_first rfl rfl (la_cat r1) dL_law_998 (fun r2 I2 J2 hp2 => ?_)
  obtain ⟨⟨v, rfl, rfl⟩, hN⟩ := hq _ _ _ _ _ _ hp1 hp2
  refine la_lif_eq C (tgt := 1030) dL_law_1001 dL_law_1002 (by decide) ?_
  exact kk _ _ _ _ hN
theorem lc_26 {p : Program} {l : Launch} {e : Env} {s : State} {m : MethodId} {below : List Frame} {meth : Method} {c : Code} {b n : Nat} {xs : Nat → Int32} {D : va_G} {aI aL : ClassId} {ad ad' : Nat → Nat} {I : sa_I} {J : sa_J} {I' : sa_I} {J' : sa_J} {N : sa_I → sa_J → sa_I → sa_J → Prop} {i : Nat} (C : la_Cx p s m meth c b n xs D aI aL) (hi : i + 4 ≤ n) (hn : n < 2 ^ 31) (h : la_Step l D aI aL ad ad' N 26 (xs (i + 1)) (xs (i + 2)) (xs (i + 3)) I J I' J') (kk : ∀ I1 J1 I2 J2, N I1 J1 I2 J2 → Lat p l e s m below meth c b D aI aL ad ad' 1030 [(0, .ref b), (1, .ref (ad 0)), (2, .ref (ad' 0)), (3, .int (nI i))] [] I1 J1 I2 J2) : Lat p l e s m below meth c b D aI aL ad ad' 1007 [(0, .ref b), (1, .ref (ad 0)), (2, .ref (ad' 0)), (3, .int (nI i))] [] I J I' J' := by
  obtain ⟨P1, P2, h1, h2, hq⟩ := h
  refine la_aload_n C 1 dL_law_1007 rfl ?_
  refine la_aload_n C 0 dL_law_1008 rfl ?_
  refine la_iload_n C 3 dL_law_1009 rfl ?_
  refine la_iconst C (v := nI 1) dL_law_1010 rfl ?_
  refine la_iadd C dL_law_1011 ?_
  refine la_eqi (nI_add i 1) ?_
  refine la_sld C (by omega) hn dL_law_1012 ?_
  refine la_callC (As := [.int (xs (i + 1))]) (rest := []) C h1 ⟨rfl, rfl, Nat.le_of_ble_eq_true rfl, Nat.le_of_ble_eq_true rfl⟩ rfl wm_L_123 wi_X6_count ws_X6_count w0_X6 wc_X6_count nm_X6_count rfl rfl (Nat.zero_le _) dL_law_1013 (fun r1 I1 J1 hp1 => ?_)
  refine la_aload_n C 2 dL_law_1016 rfl ?_
  refine la_aload_n C 0 dL_law_1017 rfl ?_
  refine la_iload_n C 3 dL_law_1018 rfl ?_
  refine la_iconst C (v := nI 1) dL_law_1019 rfl ?_
  refine la_iadd C dL_law_1020 ?_
  refine la_eqi (nI_add i 1) ?_
  refine la_sld C (by omega) hn dL_law_1021 ?_
  refine la_callR (As := [.int (xs (i + 1))]) (rest := (r1.toList ++ [])) C h2 ⟨rfl, rfl, Nat.le_of_ble_eq_true rfl, Nat.le_of_ble_eq_true rfl⟩ rfl wm_L_126 wi_X7_count ws_X7_count w0_X7 wc_X7_count nm_X7_count rfl rfl (la_cat r1) dL_law_1022 (fun r2 I2 J2 hp2 => ?_)
  obtain ⟨⟨v, rfl, rfl⟩, hN⟩ := hq _ _ _ _ _ _ hp1 hp2
  refine la_icmp_eq C (tgt := 1030) dL_law_1025 (by decide) ?_
  exact kk _ _ _ _ hN
theorem la_loop {p : Program} {l : Launch} {e : Env} {s : State} {m : MethodId} {below : List Frame} {meth : Method} {c : Code} {b n : Nat} {xs : Nat → Int32} {D : va_G} {aI aL : ClassId} {ad ad' : Nat → Nat} {I : sa_I} {J : sa_J} {I' : sa_I} {J' : sa_J} (C : la_Cx p s m meth c b n xs D aI aL) (hn : n ≤ 2048) (Rel : Nat → sa_I → sa_J → sa_I → sa_J → Prop)
    (hstep : ∀ j I J I' J', 4 * j + 4 ≤ n → Rel j I J I' J' → ∀ k, k < 32 → ∀ a1 a2 a3, la_Step l D aI aL ad ad' (Rel (j + 1)) k a1 a2 a3 I J I' J') :
    ∀ (f j : Nat) (I : sa_I) (J : sa_J) (I' : sa_I) (J' : sa_J), 4 * j ≤ n + 3 → n < 4 * (j + f) → Rel j I J I' J' → Lat p l e s m below meth c b D aI aL ad ad' 18 [(0, .ref b), (1, .ref (ad 0)), (2, .ref (ad' 0)), (3, .int (nI (4 * j)))] [] I J I' J' := by
  have hn31 : n < 2 ^ 31 := by omega
  intro f
  induction f with
  | zero =>
    intro j I J I' J' h1 h2 hR
    refine la_iload_n C 3 dL_law_18 rfl ?_
    refine la_aload_n C 0 dL_law_19 rfl ?_
    refine la_slen C dL_law_20 ?_
    refine la_iconst C (v := nI 4) dL_law_21 rfl ?_
    refine la_isub C dL_law_22 ?_
    refine la_icmp_gt C (tgt := 1036) dL_law_23 (by decide) (fun _ => ?_) (fun cc => absurd ?_ cc)
    · refine la_iconst C (v := 1) dL_law_1036 rfl ?_
      exact la_ret C dL_law_1037
    · rw [Int32.lt_iff_toInt_lt, pk_sub_toInt (by omega) (by omega), nI_toInt (by omega)]; omega
  | succ f ih =>
    intro j I J I' J' h1 h2 hR
    refine la_iload_n C 3 dL_law_18 rfl ?_
    refine la_aload_n C 0 dL_law_19 rfl ?_
    refine la_slen C dL_law_20 ?_
    refine la_iconst C (v := nI 4) dL_law_21 rfl ?_
    refine la_isub C dL_law_22 ?_
    refine la_icmp_gt C (tgt := 1036) dL_law_23 (by decide) (fun _ => ?_) (fun cc => ?_)
    · refine la_iconst C (v := 1) dL_law_1036 rfl ?_
      exact la_ret C dL_law_1037
    · have hj : 4 * j + 4 ≤ n := by
        rw [Int32.lt_iff_toInt_lt, pk_sub_toInt (by omega) (by omega), nI_toInt (by omega)] at cc; omega
      have kk : ∀ I1 J1 I2 J2, Rel (j + 1) I1 J1 I2 J2 → Lat p l e s m below meth c b D aI aL ad ad' 1030 [(0, .ref b), (1, .ref (ad 0)), (2, .ref (ad' 0)), (3, .int (nI (4 * j)))] [] I1 J1 I2 J2 := by
        intro I1 J1 I2 J2 hR1
        refine la_iinc C 3 (nI (4 * (j + 1))) [(3, .int (nI (4 * (j + 1)))), (0, .ref b), (1, .ref (ad 0)), (2, .ref (ad' 0))] dL_law_1030 rfl (nI_add (4 * j) 4) rfl ?_
        refine la_goto C (tgt := 18) dL_law_1033 (by decide) ?_
        refine la_pick [1, 2, 3, 0] [(0, .ref b), (1, .ref (ad 0)), (2, .ref (ad' 0)), (3, .int (nI (4 * (j + 1))))] rfl ?_
        exact ih (j + 1) I1 J1 I2 J2 (by omega) (by omega) hR1
      refine la_aload_n C 0 dL_law_26 rfl ?_
      refine la_iload_n C 3 dL_law_27 rfl ?_
      refine la_sld C (by omega) hn31 dL_law_28 ?_
      refine la_bipush C (v := 31) dL_law_29 rfl ?_
      refine la_iand C dL_law_31 ?_
      obtain ⟨k, hk, ek⟩ := pk_andE (xs (4 * j)) (m := 31) 5 rfl
      refine la_eqi ek ?_
      have hs := hstep j I J I' J' hj hR k hk (xs (4 * j + 1)) (xs (4 * j + 2)) (xs (4 * j + 3))
      match k, hk, hs with
      | 0, _, hs => exact la_tableIn C (tgt := 156) dL_law_32 (by decide) (by decide) (off := 124) rfl (by decide) (lc_0 C hj hn31 hs kk)
      | 1, _, hs => exact la_tableIn C (tgt := 189) dL_law_32 (by decide) (by decide) (off := 157) rfl (by decide) (lc_1 C hj hn31 hs kk)
      | 2, _, hs => exact la_tableIn C (tgt := 232) dL_law_32 (by decide) (by decide) (off := 200) rfl (by decide) (lc_2 C hj hn31 hs kk)
      | 3, _, hs => exact la_tableIn C (tgt := 255) dL_law_32 (by decide) (by decide) (off := 223) rfl (by decide) (lc_3 C hj hn31 hs kk)
      | 4, _, hs => exact la_tableIn C (tgt := 279) dL_law_32 (by decide) (by decide) (off := 247) rfl (by decide) (lc_4 C hj hn31 hs kk)
      | 5, _, hs => exact la_tableIn C (tgt := 312) dL_law_32 (by decide) (by decide) (off := 280) rfl (by decide) (lc_5 C hj hn31 hs kk)
      | 6, _, hs => exact la_tableIn C (tgt := 355) dL_law_32 (by decide) (by decide) (off := 323) rfl (by decide) (lc_6 C hj hn31 hs kk)
      | 7, _, hs => exact la_tableIn C (tgt := 398) dL_law_32 (by decide) (by decide) (off := 366) rfl (by decide) (lc_7 C hj hn31 hs kk)
      | 8, _, hs => exact la_tableIn C (tgt := 441) dL_law_32 (by decide) (by decide) (off := 409) rfl (by decide) (lc_8 C hj hn31 hs kk)
      | 9, _, hs => exact la_tableIn C (tgt := 474) dL_law_32 (by decide) (by decide) (off := 442) rfl (by decide) (lc_9 C hj hn31 hs kk)
      | 10, _, hs => exact la_tableIn C (tgt := 508) dL_law_32 (by decide) (by decide) (off := 476) rfl (by decide) (lc_10 C hj hn31 hs kk)
      | 11, _, hs => exact la_tableIn C (tgt := 531) dL_law_32 (by decide) (by decide) (off := 499) rfl (by decide) (lc_11 C hj hn31 hs kk)
      | 12, _, hs => exact la_tableIn C (tgt := 564) dL_law_32 (by decide) (by decide) (off := 532) rfl (by decide) (lc_12 C hj hn31 hs kk)
      | 13, _, hs => exact la_tableIn C (tgt := 607) dL_law_32 (by decide) (by decide) (off := 575) rfl (by decide) (lc_13 C hj hn31 hs kk)
      | 14, _, hs => exact la_tableIn C (tgt := 650) dL_law_32 (by decide) (by decide) (off := 618) rfl (by decide) (lc_14 C hj hn31 hs kk)
      | 15, _, hs => exact la_tableIn C (tgt := 683) dL_law_32 (by decide) (by decide) (off := 651) rfl (by decide) (lc_15 C hj hn31 hs kk)
      | 16, _, hs => exact la_tableIn C (tgt := 716) dL_law_32 (by decide) (by decide) (off := 684) rfl (by decide) (lc_16 C hj hn31 hs kk)
      | 17, _, hs => exact la_tableIn C (tgt := 749) dL_law_32 (by decide) (by decide) (off := 717) rfl (by decide) (lc_17 C hj hn31 hs kk)
      | 18, _, hs => exact la_tableIn C (tgt := 772) dL_law_32 (by decide) (by decide) (off := 740) rfl (by decide) (lc_18 C hj hn31 hs kk)
      | 19, _, hs => exact la_tableIn C (tgt := 815) dL_law_32 (by decide) (by decide) (off := 783) rfl (by decide) (lc_19 C hj hn31 hs kk)
      | 20, _, hs => exact la_tableIn C (tgt := 848) dL_law_32 (by decide) (by decide) (off := 816) rfl (by decide) (lc_20 C hj hn31 hs kk)
      | 21, _, hs => exact la_tableIn C (tgt := 891) dL_law_32 (by decide) (by decide) (off := 859) rfl (by decide) (lc_21 C hj hn31 hs kk)
      | 22, _, hs => exact la_tableIn C (tgt := 904) dL_law_32 (by decide) (by decide) (off := 872) rfl (by decide) (lc_22 C hj hn31 hs kk)
      | 23, _, hs => exact la_tableIn C (tgt := 937) dL_law_32 (by decide) (by decide) (off := 905) rfl (by decide) (lc_23 C hj hn31 hs kk)
      | 24, _, hs => exact la_tableIn C (tgt := 960) dL_law_32 (by decide) (by decide) (off := 928) rfl (by decide) (lc_24 C hj hn31 hs kk)
      | 25, _, hs => exact la_tableIn C (tgt := 983) dL_law_32 (by decide) (by decide) (off := 951) rfl (by decide) (lc_25 C hj hn31 hs kk)
      | 26, _, hs => exact la_tableIn C (tgt := 1007) dL_law_32 (by decide) (by decide) (off := 975) rfl (by decide) (lc_26 C hj hn31 hs kk)
      | 27, _, hs => exact la_tableOut C (tgt := 1030) dL_law_32 (Or.inr (by decide)) (by decide) (kk _ _ _ _ hs)
      | 28, _, hs => exact la_tableOut C (tgt := 1030) dL_law_32 (Or.inr (by decide)) (by decide) (kk _ _ _ _ hs)
      | 29, _, hs => exact la_tableOut C (tgt := 1030) dL_law_32 (Or.inr (by decide)) (by decide) (kk _ _ _ _ hs)
      | 30, _, hs => exact la_tableOut C (tgt := 1030) dL_law_32 (Or.inr (by decide)) (by decide) (kk _ _ _ _ hs)
      | 31, _, hs => exact la_tableOut C (tgt := 1030) dL_law_32 (Or.inr (by decide)) (by decide) (kk _ _ _ _ hs)
      | k + 32, hk, _ => exact absurd hk (by omega)

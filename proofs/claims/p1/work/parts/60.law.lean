theorem i0_1226 : xIns xg 0 1226 = some (.iinc 3 6) := by decide +kernel
theorem m0 : (xMet xg 0).2.2 = (4, (some .boolean)) := by decide +kernel
theorem i0_1229 : xIns xg 0 1229 = some (.goto (-1211)) := by decide +kernel
theorem i0_18 : xIns xg 0 18 = some (.iload_n 3) := by decide +kernel
theorem i0_19 : xIns xg 0 19 = some (.aload_n 0) := by decide +kernel
theorem i0_20 : xIns xg 0 20 = some (.arraylength) := by decide +kernel
theorem i0_21 : xIns xg 0 21 = some (.bipush 6) := by decide +kernel
theorem i0_23 : xIns xg 0 23 = some (.isub) := by decide +kernel
theorem i0_24 : xIns xg 0 24 = some (.if_icmp .gt 1208) := by decide +kernel
theorem i0_1232 : xIns xg 0 1232 = some (.iconst 1) := by decide +kernel
theorem i0_1233 : xIns xg 0 1233 = some (.ireturn) := by decide +kernel
theorem i0_164 : xIns xg 0 164 = some (.aload_n 1) := by decide +kernel
theorem i0_165 : xIns xg 0 165 = some (.aload_n 0) := by decide +kernel
theorem i0_166 : xIns xg 0 166 = some (.iload_n 3) := by decide +kernel
theorem i0_167 : xIns xg 0 167 = some (.iconst 1) := by decide +kernel
theorem i0_168 : xIns xg 0 168 = some (.iadd) := by decide +kernel
theorem i0_169 : xIns xg 0 169 = some (.iaload) := by decide +kernel
theorem i0_170 : xIns xg 0 170 = some (.invokevirtual 13) := by decide +kernel
theorem l0_13 : xMth xg 0 13 = some (0, 86, 2, 6) := by decide +kernel
theorem i0_173 : xIns xg 0 173 = some (.aload_n 2) := by decide +kernel
theorem i0_174 : xIns xg 0 174 = some (.aload_n 0) := by decide +kernel
theorem i0_175 : xIns xg 0 175 = some (.iload_n 3) := by decide +kernel
theorem i0_176 : xIns xg 0 176 = some (.iconst 1) := by decide +kernel
theorem i0_177 : xIns xg 0 177 = some (.iadd) := by decide +kernel
theorem i0_178 : xIns xg 0 178 = some (.iaload) := by decide +kernel
theorem i0_179 : xIns xg 0 179 = some (.invokevirtual 17) := by decide +kernel
theorem l0_17 : xMth xg 0 17 = some (0, 131, 2, 7) := by decide +kernel
theorem i0_182 : xIns xg 0 182 = some (.if_icmp .eq 1044) := by decide +kernel
theorem i0_187 : xIns xg 0 187 = some (.aload_n 1) := by decide +kernel
theorem i0_188 : xIns xg 0 188 = some (.aload_n 0) := by decide +kernel
theorem i0_189 : xIns xg 0 189 = some (.iload_n 3) := by decide +kernel
theorem i0_190 : xIns xg 0 190 = some (.iconst 1) := by decide +kernel
theorem i0_191 : xIns xg 0 191 = some (.iadd) := by decide +kernel
theorem i0_192 : xIns xg 0 192 = some (.iaload) := by decide +kernel
theorem i0_193 : xIns xg 0 193 = some (.invokevirtual 18) := by decide +kernel
theorem l0_18 : xMth xg 0 18 = some (0, 117, 2, 6) := by decide +kernel
theorem i0_196 : xIns xg 0 196 = some (.aload_n 2) := by decide +kernel
theorem i0_197 : xIns xg 0 197 = some (.aload_n 0) := by decide +kernel
theorem i0_198 : xIns xg 0 198 = some (.iload_n 3) := by decide +kernel
theorem i0_199 : xIns xg 0 199 = some (.iconst 1) := by decide +kernel
theorem i0_200 : xIns xg 0 200 = some (.iadd) := by decide +kernel
theorem i0_201 : xIns xg 0 201 = some (.iaload) := by decide +kernel
theorem i0_202 : xIns xg 0 202 = some (.invokevirtual 21) := by decide +kernel
theorem l0_21 : xMth xg 0 21 = some (0, 190, 2, 7) := by decide +kernel
theorem i0_205 : xIns xg 0 205 = some (.if_icmp .eq 1021) := by decide +kernel
theorem i0_210 : xIns xg 0 210 = some (.aload_n 1) := by decide +kernel
theorem i0_211 : xIns xg 0 211 = some (.aload_n 0) := by decide +kernel
theorem i0_212 : xIns xg 0 212 = some (.iload_n 3) := by decide +kernel
theorem i0_213 : xIns xg 0 213 = some (.iconst 1) := by decide +kernel
theorem i0_214 : xIns xg 0 214 = some (.iadd) := by decide +kernel
theorem i0_215 : xIns xg 0 215 = some (.iaload) := by decide +kernel
theorem i0_216 : xIns xg 0 216 = some (.invokevirtual 22) := by decide +kernel
theorem l0_22 : xMth xg 0 22 = some (0, 84, 2, 6) := by decide +kernel
theorem i0_219 : xIns xg 0 219 = some (.aload_n 2) := by decide +kernel
theorem i0_220 : xIns xg 0 220 = some (.aload_n 0) := by decide +kernel
theorem i0_221 : xIns xg 0 221 = some (.iload_n 3) := by decide +kernel
theorem i0_222 : xIns xg 0 222 = some (.iconst 1) := by decide +kernel
theorem i0_223 : xIns xg 0 223 = some (.iadd) := by decide +kernel
theorem i0_224 : xIns xg 0 224 = some (.iaload) := by decide +kernel
theorem i0_225 : xIns xg 0 225 = some (.invokevirtual 25) := by decide +kernel
theorem l0_25 : xMth xg 0 25 = some (0, 128, 2, 7) := by decide +kernel
theorem i0_228 : xIns xg 0 228 = some (.if_icmp .eq 998) := by decide +kernel
theorem i0_233 : xIns xg 0 233 = some (.aload_n 1) := by decide +kernel
theorem i0_234 : xIns xg 0 234 = some (.aload_n 0) := by decide +kernel
theorem i0_235 : xIns xg 0 235 = some (.iload_n 3) := by decide +kernel
theorem i0_236 : xIns xg 0 236 = some (.iconst 1) := by decide +kernel
theorem i0_237 : xIns xg 0 237 = some (.iadd) := by decide +kernel
theorem i0_238 : xIns xg 0 238 = some (.iaload) := by decide +kernel
theorem i0_239 : xIns xg 0 239 = some (.aload_n 0) := by decide +kernel
theorem i0_240 : xIns xg 0 240 = some (.iload_n 3) := by decide +kernel
theorem i0_241 : xIns xg 0 241 = some (.iconst 2) := by decide +kernel
theorem i0_242 : xIns xg 0 242 = some (.iadd) := by decide +kernel
theorem i0_243 : xIns xg 0 243 = some (.iaload) := by decide +kernel
theorem i0_244 : xIns xg 0 244 = some (.aload_n 0) := by decide +kernel
theorem i0_245 : xIns xg 0 245 = some (.iload_n 3) := by decide +kernel
theorem i0_246 : xIns xg 0 246 = some (.iconst 3) := by decide +kernel
theorem i0_247 : xIns xg 0 247 = some (.iadd) := by decide +kernel
theorem i0_248 : xIns xg 0 248 = some (.iaload) := by decide +kernel
theorem i0_249 : xIns xg 0 249 = some (.invokevirtual 26) := by decide +kernel
theorem l0_26 : xMth xg 0 26 = some (0, 105, 4, 6) := by decide +kernel
theorem i0_252 : xIns xg 0 252 = some (.aload_n 2) := by decide +kernel
theorem i0_253 : xIns xg 0 253 = some (.aload_n 0) := by decide +kernel
theorem i0_254 : xIns xg 0 254 = some (.iload_n 3) := by decide +kernel
theorem i0_255 : xIns xg 0 255 = some (.iconst 1) := by decide +kernel
theorem i0_256 : xIns xg 0 256 = some (.iadd) := by decide +kernel
theorem i0_257 : xIns xg 0 257 = some (.iaload) := by decide +kernel
theorem i0_258 : xIns xg 0 258 = some (.aload_n 0) := by decide +kernel
theorem i0_259 : xIns xg 0 259 = some (.iload_n 3) := by decide +kernel
theorem i0_260 : xIns xg 0 260 = some (.iconst 2) := by decide +kernel
theorem i0_261 : xIns xg 0 261 = some (.iadd) := by decide +kernel
theorem i0_262 : xIns xg 0 262 = some (.iaload) := by decide +kernel
theorem i0_263 : xIns xg 0 263 = some (.aload_n 0) := by decide +kernel
theorem i0_264 : xIns xg 0 264 = some (.iload_n 3) := by decide +kernel
theorem i0_265 : xIns xg 0 265 = some (.iconst 3) := by decide +kernel
theorem i0_266 : xIns xg 0 266 = some (.iadd) := by decide +kernel
theorem i0_267 : xIns xg 0 267 = some (.iaload) := by decide +kernel
theorem i0_268 : xIns xg 0 268 = some (.invokevirtual 30) := by decide +kernel
theorem l0_30 : xMth xg 0 30 = some (0, 173, 4, 7) := by decide +kernel
theorem i0_271 : xIns xg 0 271 = some (.if_icmp .eq 955) := by decide +kernel
theorem i0_276 : xIns xg 0 276 = some (.aload_n 1) := by decide +kernel
theorem i0_277 : xIns xg 0 277 = some (.aload_n 0) := by decide +kernel
theorem i0_278 : xIns xg 0 278 = some (.iload_n 3) := by decide +kernel
theorem i0_279 : xIns xg 0 279 = some (.iconst 1) := by decide +kernel
theorem i0_280 : xIns xg 0 280 = some (.iadd) := by decide +kernel
theorem i0_281 : xIns xg 0 281 = some (.iaload) := by decide +kernel
theorem i0_282 : xIns xg 0 282 = some (.aload_n 0) := by decide +kernel
theorem i0_283 : xIns xg 0 283 = some (.iload_n 3) := by decide +kernel
theorem i0_284 : xIns xg 0 284 = some (.iconst 2) := by decide +kernel
theorem i0_285 : xIns xg 0 285 = some (.iadd) := by decide +kernel
theorem i0_286 : xIns xg 0 286 = some (.iaload) := by decide +kernel
theorem i0_287 : xIns xg 0 287 = some (.invokevirtual 31) := by decide +kernel
theorem l0_31 : xMth xg 0 31 = some (0, 104, 3, 6) := by decide +kernel
theorem i0_290 : xIns xg 0 290 = some (.aload_n 2) := by decide +kernel
theorem i0_291 : xIns xg 0 291 = some (.aload_n 0) := by decide +kernel
theorem i0_292 : xIns xg 0 292 = some (.iload_n 3) := by decide +kernel
theorem i0_293 : xIns xg 0 293 = some (.iconst 1) := by decide +kernel
theorem i0_294 : xIns xg 0 294 = some (.iadd) := by decide +kernel
theorem i0_295 : xIns xg 0 295 = some (.iaload) := by decide +kernel
theorem i0_296 : xIns xg 0 296 = some (.aload_n 0) := by decide +kernel
theorem i0_297 : xIns xg 0 297 = some (.iload_n 3) := by decide +kernel
theorem i0_298 : xIns xg 0 298 = some (.iconst 2) := by decide +kernel
theorem i0_299 : xIns xg 0 299 = some (.iadd) := by decide +kernel
theorem i0_300 : xIns xg 0 300 = some (.iaload) := by decide +kernel
theorem i0_301 : xIns xg 0 301 = some (.invokevirtual 35) := by decide +kernel
theorem l0_35 : xMth xg 0 35 = some (0, 169, 3, 7) := by decide +kernel
theorem i0_304 : xIns xg 0 304 = some (.lcmp) := by decide +kernel
theorem i0_305 : xIns xg 0 305 = some (.ifCond .eq 921) := by decide +kernel
theorem i0_310 : xIns xg 0 310 = some (.aload_n 1) := by decide +kernel
theorem i0_311 : xIns xg 0 311 = some (.aload_n 0) := by decide +kernel
theorem i0_312 : xIns xg 0 312 = some (.iload_n 3) := by decide +kernel
theorem i0_313 : xIns xg 0 313 = some (.iconst 1) := by decide +kernel
theorem i0_314 : xIns xg 0 314 = some (.iadd) := by decide +kernel
theorem i0_315 : xIns xg 0 315 = some (.iaload) := by decide +kernel
theorem i0_316 : xIns xg 0 316 = some (.aload_n 0) := by decide +kernel
theorem i0_317 : xIns xg 0 317 = some (.iload_n 3) := by decide +kernel
theorem i0_318 : xIns xg 0 318 = some (.iconst 2) := by decide +kernel
theorem i0_319 : xIns xg 0 319 = some (.iadd) := by decide +kernel
theorem i0_320 : xIns xg 0 320 = some (.iaload) := by decide +kernel
theorem i0_321 : xIns xg 0 321 = some (.aload_n 0) := by decide +kernel
theorem i0_322 : xIns xg 0 322 = some (.iload_n 3) := by decide +kernel
theorem i0_323 : xIns xg 0 323 = some (.iconst 3) := by decide +kernel
theorem i0_324 : xIns xg 0 324 = some (.iadd) := by decide +kernel
theorem i0_325 : xIns xg 0 325 = some (.iaload) := by decide +kernel
theorem i0_326 : xIns xg 0 326 = some (.invokevirtual 36) := by decide +kernel
theorem l0_36 : xMth xg 0 36 = some (0, 85, 4, 6) := by decide +kernel
theorem i0_329 : xIns xg 0 329 = some (.aload_n 2) := by decide +kernel
theorem i0_330 : xIns xg 0 330 = some (.aload_n 0) := by decide +kernel
theorem i0_331 : xIns xg 0 331 = some (.iload_n 3) := by decide +kernel
theorem i0_332 : xIns xg 0 332 = some (.iconst 1) := by decide +kernel
theorem i0_333 : xIns xg 0 333 = some (.iadd) := by decide +kernel
theorem i0_334 : xIns xg 0 334 = some (.iaload) := by decide +kernel
theorem i0_335 : xIns xg 0 335 = some (.aload_n 0) := by decide +kernel
theorem i0_336 : xIns xg 0 336 = some (.iload_n 3) := by decide +kernel
theorem i0_337 : xIns xg 0 337 = some (.iconst 2) := by decide +kernel
theorem i0_338 : xIns xg 0 338 = some (.iadd) := by decide +kernel
theorem i0_339 : xIns xg 0 339 = some (.iaload) := by decide +kernel
theorem i0_340 : xIns xg 0 340 = some (.aload_n 0) := by decide +kernel
theorem i0_341 : xIns xg 0 341 = some (.iload_n 3) := by decide +kernel
theorem i0_342 : xIns xg 0 342 = some (.iconst 3) := by decide +kernel
theorem i0_343 : xIns xg 0 343 = some (.iadd) := by decide +kernel
theorem i0_344 : xIns xg 0 344 = some (.iaload) := by decide +kernel
theorem i0_345 : xIns xg 0 345 = some (.invokevirtual 40) := by decide +kernel
theorem l0_40 : xMth xg 0 40 = some (0, 129, 4, 7) := by decide +kernel
theorem i0_348 : xIns xg 0 348 = some (.lcmp) := by decide +kernel
theorem i0_349 : xIns xg 0 349 = some (.ifCond .eq 877) := by decide +kernel
theorem i0_354 : xIns xg 0 354 = some (.aload_n 1) := by decide +kernel
theorem i0_355 : xIns xg 0 355 = some (.aload_n 0) := by decide +kernel
theorem i0_356 : xIns xg 0 356 = some (.iload_n 3) := by decide +kernel
theorem i0_357 : xIns xg 0 357 = some (.iconst 1) := by decide +kernel
theorem i0_358 : xIns xg 0 358 = some (.iadd) := by decide +kernel
theorem i0_359 : xIns xg 0 359 = some (.iaload) := by decide +kernel
theorem i0_360 : xIns xg 0 360 = some (.aload_n 0) := by decide +kernel
theorem i0_361 : xIns xg 0 361 = some (.iload_n 3) := by decide +kernel
theorem i0_362 : xIns xg 0 362 = some (.iconst 2) := by decide +kernel
theorem i0_363 : xIns xg 0 363 = some (.iadd) := by decide +kernel
theorem i0_364 : xIns xg 0 364 = some (.iaload) := by decide +kernel
theorem i0_365 : xIns xg 0 365 = some (.aload_n 0) := by decide +kernel
theorem i0_366 : xIns xg 0 366 = some (.iload_n 3) := by decide +kernel
theorem i0_367 : xIns xg 0 367 = some (.iconst 3) := by decide +kernel
theorem i0_368 : xIns xg 0 368 = some (.iadd) := by decide +kernel
theorem i0_369 : xIns xg 0 369 = some (.iaload) := by decide +kernel
theorem i0_370 : xIns xg 0 370 = some (.invokevirtual 41) := by decide +kernel
theorem l0_41 : xMth xg 0 41 = some (0, 119, 4, 6) := by decide +kernel
theorem i0_373 : xIns xg 0 373 = some (.aload_n 2) := by decide +kernel
theorem i0_374 : xIns xg 0 374 = some (.aload_n 0) := by decide +kernel
theorem i0_375 : xIns xg 0 375 = some (.iload_n 3) := by decide +kernel
theorem i0_376 : xIns xg 0 376 = some (.iconst 1) := by decide +kernel
theorem i0_377 : xIns xg 0 377 = some (.iadd) := by decide +kernel
theorem i0_378 : xIns xg 0 378 = some (.iaload) := by decide +kernel
theorem i0_379 : xIns xg 0 379 = some (.aload_n 0) := by decide +kernel
theorem i0_380 : xIns xg 0 380 = some (.iload_n 3) := by decide +kernel
theorem i0_381 : xIns xg 0 381 = some (.iconst 2) := by decide +kernel
theorem i0_382 : xIns xg 0 382 = some (.iadd) := by decide +kernel
theorem i0_383 : xIns xg 0 383 = some (.iaload) := by decide +kernel
theorem i0_384 : xIns xg 0 384 = some (.aload_n 0) := by decide +kernel
theorem i0_385 : xIns xg 0 385 = some (.iload_n 3) := by decide +kernel
theorem i0_386 : xIns xg 0 386 = some (.iconst 3) := by decide +kernel
theorem i0_387 : xIns xg 0 387 = some (.iadd) := by decide +kernel
theorem i0_388 : xIns xg 0 388 = some (.iaload) := by decide +kernel
theorem i0_389 : xIns xg 0 389 = some (.invokevirtual 44) := by decide +kernel
theorem l0_44 : xMth xg 0 44 = some (0, 194, 4, 7) := by decide +kernel
theorem i0_392 : xIns xg 0 392 = some (.if_icmp .eq 834) := by decide +kernel
theorem i0_397 : xIns xg 0 397 = some (.aload_n 1) := by decide +kernel
theorem i0_398 : xIns xg 0 398 = some (.aload_n 0) := by decide +kernel
theorem i0_399 : xIns xg 0 399 = some (.iload_n 3) := by decide +kernel
theorem i0_400 : xIns xg 0 400 = some (.iconst 1) := by decide +kernel
theorem i0_401 : xIns xg 0 401 = some (.iadd) := by decide +kernel
theorem i0_402 : xIns xg 0 402 = some (.iaload) := by decide +kernel
theorem i0_403 : xIns xg 0 403 = some (.aload_n 0) := by decide +kernel
theorem i0_404 : xIns xg 0 404 = some (.iload_n 3) := by decide +kernel
theorem i0_405 : xIns xg 0 405 = some (.iconst 2) := by decide +kernel
theorem i0_406 : xIns xg 0 406 = some (.iadd) := by decide +kernel
theorem i0_407 : xIns xg 0 407 = some (.iaload) := by decide +kernel
theorem i0_408 : xIns xg 0 408 = some (.aload_n 0) := by decide +kernel
theorem i0_409 : xIns xg 0 409 = some (.iload_n 3) := by decide +kernel
theorem i0_410 : xIns xg 0 410 = some (.iconst 3) := by decide +kernel
theorem i0_411 : xIns xg 0 411 = some (.iadd) := by decide +kernel
theorem i0_412 : xIns xg 0 412 = some (.iaload) := by decide +kernel
theorem i0_413 : xIns xg 0 413 = some (.invokevirtual 45) := by decide +kernel
theorem l0_45 : xMth xg 0 45 = some (0, 113, 4, 6) := by decide +kernel
theorem i0_416 : xIns xg 0 416 = some (.aload_n 2) := by decide +kernel
theorem i0_417 : xIns xg 0 417 = some (.aload_n 0) := by decide +kernel
theorem i0_418 : xIns xg 0 418 = some (.iload_n 3) := by decide +kernel
theorem i0_419 : xIns xg 0 419 = some (.iconst 1) := by decide +kernel
theorem i0_420 : xIns xg 0 420 = some (.iadd) := by decide +kernel
theorem i0_421 : xIns xg 0 421 = some (.iaload) := by decide +kernel
theorem i0_422 : xIns xg 0 422 = some (.aload_n 0) := by decide +kernel
theorem i0_423 : xIns xg 0 423 = some (.iload_n 3) := by decide +kernel
theorem i0_424 : xIns xg 0 424 = some (.iconst 2) := by decide +kernel
theorem i0_425 : xIns xg 0 425 = some (.iadd) := by decide +kernel
theorem i0_426 : xIns xg 0 426 = some (.iaload) := by decide +kernel
theorem i0_427 : xIns xg 0 427 = some (.aload_n 0) := by decide +kernel
theorem i0_428 : xIns xg 0 428 = some (.iload_n 3) := by decide +kernel
theorem i0_429 : xIns xg 0 429 = some (.iconst 3) := by decide +kernel
theorem i0_430 : xIns xg 0 430 = some (.iadd) := by decide +kernel
theorem i0_431 : xIns xg 0 431 = some (.iaload) := by decide +kernel
theorem i0_432 : xIns xg 0 432 = some (.invokevirtual 48) := by decide +kernel
theorem l0_48 : xMth xg 0 48 = some (0, 186, 4, 7) := by decide +kernel
theorem i0_435 : xIns xg 0 435 = some (.if_icmp .eq 791) := by decide +kernel
theorem i0_440 : xIns xg 0 440 = some (.aload_n 1) := by decide +kernel
theorem i0_441 : xIns xg 0 441 = some (.aload_n 0) := by decide +kernel
theorem i0_442 : xIns xg 0 442 = some (.iload_n 3) := by decide +kernel
theorem i0_443 : xIns xg 0 443 = some (.iconst 1) := by decide +kernel
theorem i0_444 : xIns xg 0 444 = some (.iadd) := by decide +kernel
theorem i0_445 : xIns xg 0 445 = some (.iaload) := by decide +kernel
theorem i0_446 : xIns xg 0 446 = some (.aload_n 0) := by decide +kernel
theorem i0_447 : xIns xg 0 447 = some (.iload_n 3) := by decide +kernel
theorem i0_448 : xIns xg 0 448 = some (.iconst 2) := by decide +kernel
theorem i0_449 : xIns xg 0 449 = some (.iadd) := by decide +kernel
theorem i0_450 : xIns xg 0 450 = some (.iaload) := by decide +kernel
theorem i0_451 : xIns xg 0 451 = some (.invokevirtual 49) := by decide +kernel
theorem l0_49 : xMth xg 0 49 = some (0, 106, 3, 6) := by decide +kernel
theorem i0_454 : xIns xg 0 454 = some (.aload_n 2) := by decide +kernel
theorem i0_455 : xIns xg 0 455 = some (.aload_n 0) := by decide +kernel
theorem i0_456 : xIns xg 0 456 = some (.iload_n 3) := by decide +kernel
theorem i0_457 : xIns xg 0 457 = some (.iconst 1) := by decide +kernel
theorem i0_458 : xIns xg 0 458 = some (.iadd) := by decide +kernel
theorem i0_459 : xIns xg 0 459 = some (.iaload) := by decide +kernel
theorem i0_460 : xIns xg 0 460 = some (.aload_n 0) := by decide +kernel
theorem i0_461 : xIns xg 0 461 = some (.iload_n 3) := by decide +kernel
theorem i0_462 : xIns xg 0 462 = some (.iconst 2) := by decide +kernel
theorem i0_463 : xIns xg 0 463 = some (.iadd) := by decide +kernel
theorem i0_464 : xIns xg 0 464 = some (.iaload) := by decide +kernel
theorem i0_465 : xIns xg 0 465 = some (.invokevirtual 53) := by decide +kernel
theorem l0_53 : xMth xg 0 53 = some (0, 177, 3, 7) := by decide +kernel
theorem i0_468 : xIns xg 0 468 = some (.if_icmp .eq 758) := by decide +kernel
theorem i0_473 : xIns xg 0 473 = some (.aload_n 1) := by decide +kernel
theorem i0_474 : xIns xg 0 474 = some (.aload_n 0) := by decide +kernel
theorem i0_475 : xIns xg 0 475 = some (.iload_n 3) := by decide +kernel
theorem i0_476 : xIns xg 0 476 = some (.iconst 1) := by decide +kernel
theorem i0_477 : xIns xg 0 477 = some (.iadd) := by decide +kernel
theorem i0_478 : xIns xg 0 478 = some (.iaload) := by decide +kernel
theorem i0_479 : xIns xg 0 479 = some (.aload_n 0) := by decide +kernel
theorem i0_480 : xIns xg 0 480 = some (.iload_n 3) := by decide +kernel
theorem i0_481 : xIns xg 0 481 = some (.iconst 2) := by decide +kernel
theorem i0_482 : xIns xg 0 482 = some (.iadd) := by decide +kernel
theorem i0_483 : xIns xg 0 483 = some (.iaload) := by decide +kernel
theorem i0_484 : xIns xg 0 484 = some (.invokevirtual 54) := by decide +kernel
theorem l0_54 : xMth xg 0 54 = some (0, 118, 3, 6) := by decide +kernel
theorem i0_487 : xIns xg 0 487 = some (.aload_n 2) := by decide +kernel
theorem i0_488 : xIns xg 0 488 = some (.aload_n 0) := by decide +kernel
theorem i0_489 : xIns xg 0 489 = some (.iload_n 3) := by decide +kernel
theorem i0_490 : xIns xg 0 490 = some (.iconst 1) := by decide +kernel
theorem i0_491 : xIns xg 0 491 = some (.iadd) := by decide +kernel
theorem i0_492 : xIns xg 0 492 = some (.iaload) := by decide +kernel
theorem i0_493 : xIns xg 0 493 = some (.aload_n 0) := by decide +kernel
theorem i0_494 : xIns xg 0 494 = some (.iload_n 3) := by decide +kernel
theorem i0_495 : xIns xg 0 495 = some (.iconst 2) := by decide +kernel
theorem i0_496 : xIns xg 0 496 = some (.iadd) := by decide +kernel
theorem i0_497 : xIns xg 0 497 = some (.iaload) := by decide +kernel
theorem i0_498 : xIns xg 0 498 = some (.invokevirtual 57) := by decide +kernel
theorem l0_57 : xMth xg 0 57 = some (0, 191, 3, 7) := by decide +kernel
theorem i0_501 : xIns xg 0 501 = some (.if_icmp .eq 725) := by decide +kernel
theorem i0_506 : xIns xg 0 506 = some (.aload_n 1) := by decide +kernel
theorem i0_507 : xIns xg 0 507 = some (.aload_n 0) := by decide +kernel
theorem i0_508 : xIns xg 0 508 = some (.iload_n 3) := by decide +kernel
theorem i0_509 : xIns xg 0 509 = some (.iconst 1) := by decide +kernel
theorem i0_510 : xIns xg 0 510 = some (.iadd) := by decide +kernel
theorem i0_511 : xIns xg 0 511 = some (.iaload) := by decide +kernel
theorem i0_512 : xIns xg 0 512 = some (.aload_n 0) := by decide +kernel
theorem i0_513 : xIns xg 0 513 = some (.iload_n 3) := by decide +kernel
theorem i0_514 : xIns xg 0 514 = some (.iconst 2) := by decide +kernel
theorem i0_515 : xIns xg 0 515 = some (.iadd) := by decide +kernel
theorem i0_516 : xIns xg 0 516 = some (.iaload) := by decide +kernel
theorem i0_517 : xIns xg 0 517 = some (.invokevirtual 58) := by decide +kernel
theorem l0_58 : xMth xg 0 58 = some (0, 94, 3, 6) := by decide +kernel
theorem i0_520 : xIns xg 0 520 = some (.aload_n 2) := by decide +kernel
theorem i0_521 : xIns xg 0 521 = some (.aload_n 0) := by decide +kernel
theorem i0_522 : xIns xg 0 522 = some (.iload_n 3) := by decide +kernel
theorem i0_523 : xIns xg 0 523 = some (.iconst 1) := by decide +kernel
theorem i0_524 : xIns xg 0 524 = some (.iadd) := by decide +kernel
theorem i0_525 : xIns xg 0 525 = some (.iaload) := by decide +kernel
theorem i0_526 : xIns xg 0 526 = some (.aload_n 0) := by decide +kernel
theorem i0_527 : xIns xg 0 527 = some (.iload_n 3) := by decide +kernel
theorem i0_528 : xIns xg 0 528 = some (.iconst 2) := by decide +kernel
theorem i0_529 : xIns xg 0 529 = some (.iadd) := by decide +kernel
theorem i0_530 : xIns xg 0 530 = some (.iaload) := by decide +kernel
theorem i0_531 : xIns xg 0 531 = some (.invokevirtual 61) := by decide +kernel
theorem l0_61 : xMth xg 0 61 = some (0, 144, 3, 7) := by decide +kernel
theorem i0_534 : xIns xg 0 534 = some (.if_icmp .eq 692) := by decide +kernel
theorem i0_539 : xIns xg 0 539 = some (.aload_n 1) := by decide +kernel
theorem i0_540 : xIns xg 0 540 = some (.aload_n 0) := by decide +kernel
theorem i0_541 : xIns xg 0 541 = some (.iload_n 3) := by decide +kernel
theorem i0_542 : xIns xg 0 542 = some (.iconst 1) := by decide +kernel
theorem i0_543 : xIns xg 0 543 = some (.iadd) := by decide +kernel
theorem i0_544 : xIns xg 0 544 = some (.iaload) := by decide +kernel
theorem i0_545 : xIns xg 0 545 = some (.aload_n 0) := by decide +kernel
theorem i0_546 : xIns xg 0 546 = some (.iload_n 3) := by decide +kernel
theorem i0_547 : xIns xg 0 547 = some (.iconst 2) := by decide +kernel
theorem i0_548 : xIns xg 0 548 = some (.iadd) := by decide +kernel
theorem i0_549 : xIns xg 0 549 = some (.iaload) := by decide +kernel
theorem i0_550 : xIns xg 0 550 = some (.invokevirtual 62) := by decide +kernel
theorem l0_62 : xMth xg 0 62 = some (0, 91, 3, 6) := by decide +kernel
theorem i0_553 : xIns xg 0 553 = some (.aload_n 2) := by decide +kernel
theorem i0_554 : xIns xg 0 554 = some (.aload_n 0) := by decide +kernel
theorem i0_555 : xIns xg 0 555 = some (.iload_n 3) := by decide +kernel
theorem i0_556 : xIns xg 0 556 = some (.iconst 1) := by decide +kernel
theorem i0_557 : xIns xg 0 557 = some (.iadd) := by decide +kernel
theorem i0_558 : xIns xg 0 558 = some (.iaload) := by decide +kernel
theorem i0_559 : xIns xg 0 559 = some (.aload_n 0) := by decide +kernel
theorem i0_560 : xIns xg 0 560 = some (.iload_n 3) := by decide +kernel
theorem i0_561 : xIns xg 0 561 = some (.iconst 2) := by decide +kernel
theorem i0_562 : xIns xg 0 562 = some (.iadd) := by decide +kernel
theorem i0_563 : xIns xg 0 563 = some (.iaload) := by decide +kernel
theorem i0_564 : xIns xg 0 564 = some (.invokevirtual 65) := by decide +kernel
theorem l0_65 : xMth xg 0 65 = some (0, 139, 3, 7) := by decide +kernel
theorem i0_567 : xIns xg 0 567 = some (.lcmp) := by decide +kernel
theorem i0_568 : xIns xg 0 568 = some (.ifCond .eq 658) := by decide +kernel
theorem i0_573 : xIns xg 0 573 = some (.aload_n 1) := by decide +kernel
theorem i0_574 : xIns xg 0 574 = some (.aload_n 0) := by decide +kernel
theorem i0_575 : xIns xg 0 575 = some (.iload_n 3) := by decide +kernel
theorem i0_576 : xIns xg 0 576 = some (.iconst 1) := by decide +kernel
theorem i0_577 : xIns xg 0 577 = some (.iadd) := by decide +kernel
theorem i0_578 : xIns xg 0 578 = some (.iaload) := by decide +kernel
theorem i0_579 : xIns xg 0 579 = some (.aload_n 0) := by decide +kernel
theorem i0_580 : xIns xg 0 580 = some (.iload_n 3) := by decide +kernel
theorem i0_581 : xIns xg 0 581 = some (.iconst 2) := by decide +kernel
theorem i0_582 : xIns xg 0 582 = some (.iadd) := by decide +kernel
theorem i0_583 : xIns xg 0 583 = some (.iaload) := by decide +kernel
theorem i0_584 : xIns xg 0 584 = some (.invokevirtual 66) := by decide +kernel
theorem l0_66 : xMth xg 0 66 = some (0, 103, 3, 6) := by decide +kernel
theorem i0_587 : xIns xg 0 587 = some (.aload_n 2) := by decide +kernel
theorem i0_588 : xIns xg 0 588 = some (.aload_n 0) := by decide +kernel
theorem i0_589 : xIns xg 0 589 = some (.iload_n 3) := by decide +kernel
theorem i0_590 : xIns xg 0 590 = some (.iconst 1) := by decide +kernel
theorem i0_591 : xIns xg 0 591 = some (.iadd) := by decide +kernel
theorem i0_592 : xIns xg 0 592 = some (.iaload) := by decide +kernel
theorem i0_593 : xIns xg 0 593 = some (.aload_n 0) := by decide +kernel
theorem i0_594 : xIns xg 0 594 = some (.iload_n 3) := by decide +kernel
theorem i0_595 : xIns xg 0 595 = some (.iconst 2) := by decide +kernel
theorem i0_596 : xIns xg 0 596 = some (.iadd) := by decide +kernel
theorem i0_597 : xIns xg 0 597 = some (.iaload) := by decide +kernel
theorem i0_598 : xIns xg 0 598 = some (.invokevirtual 69) := by decide +kernel
theorem l0_69 : xMth xg 0 69 = some (0, 166, 3, 7) := by decide +kernel
theorem i0_601 : xIns xg 0 601 = some (.if_icmp .eq 625) := by decide +kernel
theorem i0_606 : xIns xg 0 606 = some (.aload_n 1) := by decide +kernel
theorem i0_607 : xIns xg 0 607 = some (.aload_n 0) := by decide +kernel
theorem i0_608 : xIns xg 0 608 = some (.iload_n 3) := by decide +kernel
theorem i0_609 : xIns xg 0 609 = some (.iconst 1) := by decide +kernel
theorem i0_610 : xIns xg 0 610 = some (.iadd) := by decide +kernel
theorem i0_611 : xIns xg 0 611 = some (.iaload) := by decide +kernel
theorem i0_612 : xIns xg 0 612 = some (.invokevirtual 70) := by decide +kernel
theorem l0_70 : xMth xg 0 70 = some (0, 102, 2, 6) := by decide +kernel
theorem i0_615 : xIns xg 0 615 = some (.aload_n 2) := by decide +kernel
theorem i0_616 : xIns xg 0 616 = some (.aload_n 0) := by decide +kernel
theorem i0_617 : xIns xg 0 617 = some (.iload_n 3) := by decide +kernel
theorem i0_618 : xIns xg 0 618 = some (.iconst 1) := by decide +kernel
theorem i0_619 : xIns xg 0 619 = some (.iadd) := by decide +kernel
theorem i0_620 : xIns xg 0 620 = some (.iaload) := by decide +kernel
theorem i0_621 : xIns xg 0 621 = some (.invokevirtual 73) := by decide +kernel
theorem l0_73 : xMth xg 0 73 = some (0, 163, 2, 7) := by decide +kernel
theorem i0_624 : xIns xg 0 624 = some (.if_icmp .eq 602) := by decide +kernel
theorem i0_629 : xIns xg 0 629 = some (.aload_n 1) := by decide +kernel
theorem i0_630 : xIns xg 0 630 = some (.invokevirtual 74) := by decide +kernel
theorem l0_74 : xMth xg 0 74 = some (0, 89, 1, 6) := by decide +kernel
theorem i0_633 : xIns xg 0 633 = some (.aload_n 2) := by decide +kernel
theorem i0_634 : xIns xg 0 634 = some (.invokevirtual 78) := by decide +kernel
theorem l0_78 : xMth xg 0 78 = some (0, 135, 1, 7) := by decide +kernel
theorem i0_637 : xIns xg 0 637 = some (.if_icmp .eq 589) := by decide +kernel
theorem i0_642 : xIns xg 0 642 = some (.aload_n 1) := by decide +kernel
theorem i0_643 : xIns xg 0 643 = some (.aload_n 0) := by decide +kernel
theorem i0_644 : xIns xg 0 644 = some (.iload_n 3) := by decide +kernel
theorem i0_645 : xIns xg 0 645 = some (.iconst 1) := by decide +kernel
theorem i0_646 : xIns xg 0 646 = some (.iadd) := by decide +kernel
theorem i0_647 : xIns xg 0 647 = some (.iaload) := by decide +kernel
theorem i0_648 : xIns xg 0 648 = some (.aload_n 0) := by decide +kernel
theorem i0_649 : xIns xg 0 649 = some (.iload_n 3) := by decide +kernel
theorem i0_650 : xIns xg 0 650 = some (.iconst 2) := by decide +kernel
theorem i0_651 : xIns xg 0 651 = some (.iadd) := by decide +kernel
theorem i0_652 : xIns xg 0 652 = some (.iaload) := by decide +kernel
theorem i0_653 : xIns xg 0 653 = some (.invokevirtual 79) := by decide +kernel
theorem l0_79 : xMth xg 0 79 = some (0, 112, 3, 6) := by decide +kernel
theorem i0_656 : xIns xg 0 656 = some (.aload_n 2) := by decide +kernel
theorem i0_657 : xIns xg 0 657 = some (.aload_n 0) := by decide +kernel
theorem i0_658 : xIns xg 0 658 = some (.iload_n 3) := by decide +kernel
theorem i0_659 : xIns xg 0 659 = some (.iconst 1) := by decide +kernel
theorem i0_660 : xIns xg 0 660 = some (.iadd) := by decide +kernel
theorem i0_661 : xIns xg 0 661 = some (.iaload) := by decide +kernel
theorem i0_662 : xIns xg 0 662 = some (.aload_n 0) := by decide +kernel
theorem i0_663 : xIns xg 0 663 = some (.iload_n 3) := by decide +kernel
theorem i0_664 : xIns xg 0 664 = some (.iconst 2) := by decide +kernel
theorem i0_665 : xIns xg 0 665 = some (.iadd) := by decide +kernel
theorem i0_666 : xIns xg 0 666 = some (.iaload) := by decide +kernel
theorem i0_667 : xIns xg 0 667 = some (.invokevirtual 82) := by decide +kernel
theorem l0_82 : xMth xg 0 82 = some (0, 185, 3, 7) := by decide +kernel
theorem i0_670 : xIns xg 0 670 = some (.lcmp) := by decide +kernel
theorem i0_671 : xIns xg 0 671 = some (.ifCond .eq 555) := by decide +kernel
theorem i0_676 : xIns xg 0 676 = some (.aload_n 1) := by decide +kernel
theorem i0_677 : xIns xg 0 677 = some (.aload_n 0) := by decide +kernel
theorem i0_678 : xIns xg 0 678 = some (.iload_n 3) := by decide +kernel
theorem i0_679 : xIns xg 0 679 = some (.iconst 1) := by decide +kernel
theorem i0_680 : xIns xg 0 680 = some (.iadd) := by decide +kernel
theorem i0_681 : xIns xg 0 681 = some (.iaload) := by decide +kernel
theorem i0_682 : xIns xg 0 682 = some (.aload_n 0) := by decide +kernel
theorem i0_683 : xIns xg 0 683 = some (.iload_n 3) := by decide +kernel
theorem i0_684 : xIns xg 0 684 = some (.iconst 2) := by decide +kernel
theorem i0_685 : xIns xg 0 685 = some (.iadd) := by decide +kernel
theorem i0_686 : xIns xg 0 686 = some (.iaload) := by decide +kernel
theorem i0_687 : xIns xg 0 687 = some (.i2l) := by decide +kernel
theorem i0_688 : xIns xg 0 688 = some (.bipush 32) := by decide +kernel
theorem i0_690 : xIns xg 0 690 = some (.lshl) := by decide +kernel
theorem i0_691 : xIns xg 0 691 = some (.aload_n 0) := by decide +kernel
theorem i0_692 : xIns xg 0 692 = some (.iload_n 3) := by decide +kernel
theorem i0_693 : xIns xg 0 693 = some (.iconst 3) := by decide +kernel
theorem i0_694 : xIns xg 0 694 = some (.iadd) := by decide +kernel
theorem i0_695 : xIns xg 0 695 = some (.iaload) := by decide +kernel
theorem i0_696 : xIns xg 0 696 = some (.i2l) := by decide +kernel
theorem i0_697 : xIns xg 0 697 = some (.ldc2_w 83) := by decide +kernel
theorem c0_83 : xCon xg 0 83 = some (.long (4294967295)) := by decide +kernel
theorem i0_700 : xIns xg 0 700 = some (.land) := by decide +kernel
theorem i0_701 : xIns xg 0 701 = some (.lor) := by decide +kernel
theorem i0_702 : xIns xg 0 702 = some (.aload_n 0) := by decide +kernel
theorem i0_703 : xIns xg 0 703 = some (.iload_n 3) := by decide +kernel
theorem i0_704 : xIns xg 0 704 = some (.iconst 4) := by decide +kernel
theorem i0_705 : xIns xg 0 705 = some (.iadd) := by decide +kernel
theorem i0_706 : xIns xg 0 706 = some (.iaload) := by decide +kernel
theorem i0_707 : xIns xg 0 707 = some (.invokevirtual 85) := by decide +kernel
theorem l0_85 : xMth xg 0 85 = some (0, 88, 4, 6) := by decide +kernel
theorem i0_710 : xIns xg 0 710 = some (.aload_n 2) := by decide +kernel
theorem i0_711 : xIns xg 0 711 = some (.aload_n 0) := by decide +kernel
theorem i0_712 : xIns xg 0 712 = some (.iload_n 3) := by decide +kernel
theorem i0_713 : xIns xg 0 713 = some (.iconst 1) := by decide +kernel
theorem i0_714 : xIns xg 0 714 = some (.iadd) := by decide +kernel
theorem i0_715 : xIns xg 0 715 = some (.iaload) := by decide +kernel
theorem i0_716 : xIns xg 0 716 = some (.aload_n 0) := by decide +kernel
theorem i0_717 : xIns xg 0 717 = some (.iload_n 3) := by decide +kernel
theorem i0_718 : xIns xg 0 718 = some (.iconst 2) := by decide +kernel
theorem i0_719 : xIns xg 0 719 = some (.iadd) := by decide +kernel
theorem i0_720 : xIns xg 0 720 = some (.iaload) := by decide +kernel
theorem i0_721 : xIns xg 0 721 = some (.i2l) := by decide +kernel
theorem i0_722 : xIns xg 0 722 = some (.bipush 32) := by decide +kernel
theorem i0_724 : xIns xg 0 724 = some (.lshl) := by decide +kernel
theorem i0_725 : xIns xg 0 725 = some (.aload_n 0) := by decide +kernel
theorem i0_726 : xIns xg 0 726 = some (.iload_n 3) := by decide +kernel
theorem i0_727 : xIns xg 0 727 = some (.iconst 3) := by decide +kernel
theorem i0_728 : xIns xg 0 728 = some (.iadd) := by decide +kernel
theorem i0_729 : xIns xg 0 729 = some (.iaload) := by decide +kernel
theorem i0_730 : xIns xg 0 730 = some (.i2l) := by decide +kernel
theorem i0_731 : xIns xg 0 731 = some (.ldc2_w 83) := by decide +kernel
theorem i0_734 : xIns xg 0 734 = some (.land) := by decide +kernel
theorem i0_735 : xIns xg 0 735 = some (.lor) := by decide +kernel
theorem i0_736 : xIns xg 0 736 = some (.aload_n 0) := by decide +kernel
theorem i0_737 : xIns xg 0 737 = some (.iload_n 3) := by decide +kernel
theorem i0_738 : xIns xg 0 738 = some (.iconst 4) := by decide +kernel
theorem i0_739 : xIns xg 0 739 = some (.iadd) := by decide +kernel
theorem i0_740 : xIns xg 0 740 = some (.iaload) := by decide +kernel
theorem i0_741 : xIns xg 0 741 = some (.invokevirtual 89) := by decide +kernel
theorem l0_89 : xMth xg 0 89 = some (0, 133, 4, 7) := by decide +kernel
theorem i0_744 : xIns xg 0 744 = some (.if_icmp .eq 482) := by decide +kernel
theorem i0_749 : xIns xg 0 749 = some (.aload_n 1) := by decide +kernel
theorem i0_750 : xIns xg 0 750 = some (.aload_n 0) := by decide +kernel
theorem i0_751 : xIns xg 0 751 = some (.iload_n 3) := by decide +kernel
theorem i0_752 : xIns xg 0 752 = some (.iconst 1) := by decide +kernel
theorem i0_753 : xIns xg 0 753 = some (.iadd) := by decide +kernel
theorem i0_754 : xIns xg 0 754 = some (.iaload) := by decide +kernel
theorem i0_755 : xIns xg 0 755 = some (.aload_n 0) := by decide +kernel
theorem i0_756 : xIns xg 0 756 = some (.iload_n 3) := by decide +kernel
theorem i0_757 : xIns xg 0 757 = some (.iconst 2) := by decide +kernel
theorem i0_758 : xIns xg 0 758 = some (.iadd) := by decide +kernel
theorem i0_759 : xIns xg 0 759 = some (.iaload) := by decide +kernel
theorem i0_760 : xIns xg 0 760 = some (.aload_n 0) := by decide +kernel
theorem i0_761 : xIns xg 0 761 = some (.iload_n 3) := by decide +kernel
theorem i0_762 : xIns xg 0 762 = some (.iconst 3) := by decide +kernel
theorem i0_763 : xIns xg 0 763 = some (.iadd) := by decide +kernel
theorem i0_764 : xIns xg 0 764 = some (.iaload) := by decide +kernel
theorem i0_765 : xIns xg 0 765 = some (.invokevirtual 90) := by decide +kernel
theorem l0_90 : xMth xg 0 90 = some (0, 83, 4, 6) := by decide +kernel
theorem i0_768 : xIns xg 0 768 = some (.aload_n 2) := by decide +kernel
theorem i0_769 : xIns xg 0 769 = some (.aload_n 0) := by decide +kernel
theorem i0_770 : xIns xg 0 770 = some (.iload_n 3) := by decide +kernel
theorem i0_771 : xIns xg 0 771 = some (.iconst 1) := by decide +kernel
theorem i0_772 : xIns xg 0 772 = some (.iadd) := by decide +kernel
theorem i0_773 : xIns xg 0 773 = some (.iaload) := by decide +kernel
theorem i0_774 : xIns xg 0 774 = some (.aload_n 0) := by decide +kernel
theorem i0_775 : xIns xg 0 775 = some (.iload_n 3) := by decide +kernel
theorem i0_776 : xIns xg 0 776 = some (.iconst 2) := by decide +kernel
theorem i0_777 : xIns xg 0 777 = some (.iadd) := by decide +kernel
theorem i0_778 : xIns xg 0 778 = some (.iaload) := by decide +kernel
theorem i0_779 : xIns xg 0 779 = some (.aload_n 0) := by decide +kernel
theorem i0_780 : xIns xg 0 780 = some (.iload_n 3) := by decide +kernel
theorem i0_781 : xIns xg 0 781 = some (.iconst 3) := by decide +kernel
theorem i0_782 : xIns xg 0 782 = some (.iadd) := by decide +kernel
theorem i0_783 : xIns xg 0 783 = some (.iaload) := by decide +kernel
theorem i0_784 : xIns xg 0 784 = some (.invokevirtual 93) := by decide +kernel
theorem l0_93 : xMth xg 0 93 = some (0, 126, 4, 7) := by decide +kernel
theorem i0_787 : xIns xg 0 787 = some (.if_icmp .eq 439) := by decide +kernel
theorem i0_792 : xIns xg 0 792 = some (.aload_n 1) := by decide +kernel
theorem i0_793 : xIns xg 0 793 = some (.aload_n 0) := by decide +kernel
theorem i0_794 : xIns xg 0 794 = some (.iload_n 3) := by decide +kernel
theorem i0_795 : xIns xg 0 795 = some (.iconst 1) := by decide +kernel
theorem i0_796 : xIns xg 0 796 = some (.iadd) := by decide +kernel
theorem i0_797 : xIns xg 0 797 = some (.iaload) := by decide +kernel
theorem i0_798 : xIns xg 0 798 = some (.invokevirtual 94) := by decide +kernel
theorem l0_94 : xMth xg 0 94 = some (0, 110, 2, 6) := by decide +kernel
theorem i0_801 : xIns xg 0 801 = some (.aload_n 2) := by decide +kernel
theorem i0_802 : xIns xg 0 802 = some (.aload_n 0) := by decide +kernel
theorem i0_803 : xIns xg 0 803 = some (.iload_n 3) := by decide +kernel
theorem i0_804 : xIns xg 0 804 = some (.iconst 1) := by decide +kernel
theorem i0_805 : xIns xg 0 805 = some (.iadd) := by decide +kernel
theorem i0_806 : xIns xg 0 806 = some (.iaload) := by decide +kernel
theorem i0_807 : xIns xg 0 807 = some (.invokevirtual 97) := by decide +kernel
theorem l0_97 : xMth xg 0 97 = some (0, 181, 2, 7) := by decide +kernel
theorem i0_810 : xIns xg 0 810 = some (.if_icmp .eq 416) := by decide +kernel
theorem i0_815 : xIns xg 0 815 = some (.aload_n 1) := by decide +kernel
theorem i0_816 : xIns xg 0 816 = some (.aload_n 0) := by decide +kernel
theorem i0_817 : xIns xg 0 817 = some (.iload_n 3) := by decide +kernel
theorem i0_818 : xIns xg 0 818 = some (.iconst 1) := by decide +kernel
theorem i0_819 : xIns xg 0 819 = some (.iadd) := by decide +kernel
theorem i0_820 : xIns xg 0 820 = some (.iaload) := by decide +kernel
theorem i0_821 : xIns xg 0 821 = some (.aload_n 0) := by decide +kernel
theorem i0_822 : xIns xg 0 822 = some (.iload_n 3) := by decide +kernel
theorem i0_823 : xIns xg 0 823 = some (.iconst 2) := by decide +kernel
theorem i0_824 : xIns xg 0 824 = some (.iadd) := by decide +kernel
theorem i0_825 : xIns xg 0 825 = some (.iaload) := by decide +kernel
theorem i0_826 : xIns xg 0 826 = some (.aload_n 0) := by decide +kernel
theorem i0_827 : xIns xg 0 827 = some (.iload_n 3) := by decide +kernel
theorem i0_828 : xIns xg 0 828 = some (.iconst 3) := by decide +kernel
theorem i0_829 : xIns xg 0 829 = some (.iadd) := by decide +kernel
theorem i0_830 : xIns xg 0 830 = some (.iaload) := by decide +kernel
theorem i0_831 : xIns xg 0 831 = some (.invokevirtual 98) := by decide +kernel
theorem l0_98 : xMth xg 0 98 = some (0, 87, 4, 6) := by decide +kernel
theorem i0_834 : xIns xg 0 834 = some (.aload_n 2) := by decide +kernel
theorem i0_835 : xIns xg 0 835 = some (.aload_n 0) := by decide +kernel
theorem i0_836 : xIns xg 0 836 = some (.iload_n 3) := by decide +kernel
theorem i0_837 : xIns xg 0 837 = some (.iconst 1) := by decide +kernel
theorem i0_838 : xIns xg 0 838 = some (.iadd) := by decide +kernel
theorem i0_839 : xIns xg 0 839 = some (.iaload) := by decide +kernel
theorem i0_840 : xIns xg 0 840 = some (.aload_n 0) := by decide +kernel
theorem i0_841 : xIns xg 0 841 = some (.iload_n 3) := by decide +kernel
theorem i0_842 : xIns xg 0 842 = some (.iconst 2) := by decide +kernel
theorem i0_843 : xIns xg 0 843 = some (.iadd) := by decide +kernel
theorem i0_844 : xIns xg 0 844 = some (.iaload) := by decide +kernel
theorem i0_845 : xIns xg 0 845 = some (.aload_n 0) := by decide +kernel
theorem i0_846 : xIns xg 0 846 = some (.iload_n 3) := by decide +kernel
theorem i0_847 : xIns xg 0 847 = some (.iconst 3) := by decide +kernel
theorem i0_848 : xIns xg 0 848 = some (.iadd) := by decide +kernel
theorem i0_849 : xIns xg 0 849 = some (.iaload) := by decide +kernel
theorem i0_850 : xIns xg 0 850 = some (.invokevirtual 101) := by decide +kernel
theorem l0_101 : xMth xg 0 101 = some (0, 132, 4, 7) := by decide +kernel
theorem i0_853 : xIns xg 0 853 = some (.if_icmp .eq 373) := by decide +kernel
theorem i0_858 : xIns xg 0 858 = some (.aload_n 1) := by decide +kernel
theorem i0_859 : xIns xg 0 859 = some (.aload_n 0) := by decide +kernel
theorem i0_860 : xIns xg 0 860 = some (.iload_n 3) := by decide +kernel
theorem i0_861 : xIns xg 0 861 = some (.iconst 1) := by decide +kernel
theorem i0_862 : xIns xg 0 862 = some (.iadd) := by decide +kernel
theorem i0_863 : xIns xg 0 863 = some (.iaload) := by decide +kernel
theorem i0_864 : xIns xg 0 864 = some (.aload_n 0) := by decide +kernel
theorem i0_865 : xIns xg 0 865 = some (.iload_n 3) := by decide +kernel
theorem i0_866 : xIns xg 0 866 = some (.iconst 2) := by decide +kernel
theorem i0_867 : xIns xg 0 867 = some (.iadd) := by decide +kernel
theorem i0_868 : xIns xg 0 868 = some (.iaload) := by decide +kernel
theorem i0_869 : xIns xg 0 869 = some (.aload_n 0) := by decide +kernel
theorem i0_870 : xIns xg 0 870 = some (.iload_n 3) := by decide +kernel
theorem i0_871 : xIns xg 0 871 = some (.iconst 3) := by decide +kernel
theorem i0_872 : xIns xg 0 872 = some (.iadd) := by decide +kernel
theorem i0_873 : xIns xg 0 873 = some (.iaload) := by decide +kernel
theorem i0_874 : xIns xg 0 874 = some (.invokevirtual 102) := by decide +kernel
theorem l0_102 : xMth xg 0 102 = some (0, 116, 4, 6) := by decide +kernel
theorem i0_877 : xIns xg 0 877 = some (.aload_n 2) := by decide +kernel
theorem i0_878 : xIns xg 0 878 = some (.aload_n 0) := by decide +kernel
theorem i0_879 : xIns xg 0 879 = some (.iload_n 3) := by decide +kernel
theorem i0_880 : xIns xg 0 880 = some (.iconst 1) := by decide +kernel
theorem i0_881 : xIns xg 0 881 = some (.iadd) := by decide +kernel
theorem i0_882 : xIns xg 0 882 = some (.iaload) := by decide +kernel
theorem i0_883 : xIns xg 0 883 = some (.aload_n 0) := by decide +kernel
theorem i0_884 : xIns xg 0 884 = some (.iload_n 3) := by decide +kernel
theorem i0_885 : xIns xg 0 885 = some (.iconst 2) := by decide +kernel
theorem i0_886 : xIns xg 0 886 = some (.iadd) := by decide +kernel
theorem i0_887 : xIns xg 0 887 = some (.iaload) := by decide +kernel
theorem i0_888 : xIns xg 0 888 = some (.aload_n 0) := by decide +kernel
theorem i0_889 : xIns xg 0 889 = some (.iload_n 3) := by decide +kernel
theorem i0_890 : xIns xg 0 890 = some (.iconst 3) := by decide +kernel
theorem i0_891 : xIns xg 0 891 = some (.iadd) := by decide +kernel
theorem i0_892 : xIns xg 0 892 = some (.iaload) := by decide +kernel
theorem i0_893 : xIns xg 0 893 = some (.invokevirtual 105) := by decide +kernel
theorem l0_105 : xMth xg 0 105 = some (0, 187, 4, 7) := by decide +kernel
theorem i0_896 : xIns xg 0 896 = some (.if_icmp .eq 330) := by decide +kernel
theorem i0_901 : xIns xg 0 901 = some (.aload_n 1) := by decide +kernel
theorem i0_902 : xIns xg 0 902 = some (.invokevirtual 106) := by decide +kernel
theorem l0_106 : xMth xg 0 106 = some (0, 92, 1, 6) := by decide +kernel
theorem i0_905 : xIns xg 0 905 = some (.aload_n 2) := by decide +kernel
theorem i0_906 : xIns xg 0 906 = some (.invokevirtual 109) := by decide +kernel
theorem l0_109 : xMth xg 0 109 = some (0, 141, 1, 7) := by decide +kernel
theorem i0_909 : xIns xg 0 909 = some (.if_icmp .eq 317) := by decide +kernel
theorem i0_914 : xIns xg 0 914 = some (.aload_n 1) := by decide +kernel
theorem i0_915 : xIns xg 0 915 = some (.invokevirtual 110) := by decide +kernel
theorem l0_110 : xMth xg 0 110 = some (0, 79, 1, 6) := by decide +kernel
theorem i0_918 : xIns xg 0 918 = some (.aload_n 2) := by decide +kernel
theorem i0_919 : xIns xg 0 919 = some (.invokevirtual 113) := by decide +kernel
theorem l0_113 : xMth xg 0 113 = some (0, 120, 1, 7) := by decide +kernel
theorem i0_922 : xIns xg 0 922 = some (.if_icmp .eq 304) := by decide +kernel
theorem i0_927 : xIns xg 0 927 = some (.aload_n 1) := by decide +kernel
theorem i0_928 : xIns xg 0 928 = some (.aload_n 0) := by decide +kernel
theorem i0_929 : xIns xg 0 929 = some (.iload_n 3) := by decide +kernel
theorem i0_930 : xIns xg 0 930 = some (.iconst 1) := by decide +kernel
theorem i0_931 : xIns xg 0 931 = some (.iadd) := by decide +kernel
theorem i0_932 : xIns xg 0 932 = some (.iaload) := by decide +kernel
theorem i0_933 : xIns xg 0 933 = some (.invokevirtual 114) := by decide +kernel
theorem l0_114 : xMth xg 0 114 = some (0, 81, 2, 6) := by decide +kernel
theorem i0_936 : xIns xg 0 936 = some (.aload_n 2) := by decide +kernel
theorem i0_937 : xIns xg 0 937 = some (.aload_n 0) := by decide +kernel
theorem i0_938 : xIns xg 0 938 = some (.iload_n 3) := by decide +kernel
theorem i0_939 : xIns xg 0 939 = some (.iconst 1) := by decide +kernel
theorem i0_940 : xIns xg 0 940 = some (.iadd) := by decide +kernel
theorem i0_941 : xIns xg 0 941 = some (.iaload) := by decide +kernel
theorem i0_942 : xIns xg 0 942 = some (.invokevirtual 117) := by decide +kernel
theorem l0_117 : xMth xg 0 117 = some (0, 124, 2, 7) := by decide +kernel
theorem i0_945 : xIns xg 0 945 = some (.if_icmp .eq 281) := by decide +kernel
theorem i0_950 : xIns xg 0 950 = some (.aload_n 1) := by decide +kernel
theorem i0_951 : xIns xg 0 951 = some (.aload_n 0) := by decide +kernel
theorem i0_952 : xIns xg 0 952 = some (.iload_n 3) := by decide +kernel
theorem i0_953 : xIns xg 0 953 = some (.iconst 1) := by decide +kernel
theorem i0_954 : xIns xg 0 954 = some (.iadd) := by decide +kernel
theorem i0_955 : xIns xg 0 955 = some (.iaload) := by decide +kernel
theorem i0_956 : xIns xg 0 956 = some (.aload_n 0) := by decide +kernel
theorem i0_957 : xIns xg 0 957 = some (.iload_n 3) := by decide +kernel
theorem i0_958 : xIns xg 0 958 = some (.iconst 2) := by decide +kernel
theorem i0_959 : xIns xg 0 959 = some (.iadd) := by decide +kernel
theorem i0_960 : xIns xg 0 960 = some (.iaload) := by decide +kernel
theorem i0_961 : xIns xg 0 961 = some (.aload_n 0) := by decide +kernel
theorem i0_962 : xIns xg 0 962 = some (.iload_n 3) := by decide +kernel
theorem i0_963 : xIns xg 0 963 = some (.iconst 3) := by decide +kernel
theorem i0_964 : xIns xg 0 964 = some (.iadd) := by decide +kernel
theorem i0_965 : xIns xg 0 965 = some (.iaload) := by decide +kernel
theorem i0_966 : xIns xg 0 966 = some (.invokevirtual 118) := by decide +kernel
theorem l0_118 : xMth xg 0 118 = some (0, 111, 4, 6) := by decide +kernel
theorem i0_969 : xIns xg 0 969 = some (.aload_n 2) := by decide +kernel
theorem i0_970 : xIns xg 0 970 = some (.aload_n 0) := by decide +kernel
theorem i0_971 : xIns xg 0 971 = some (.iload_n 3) := by decide +kernel
theorem i0_972 : xIns xg 0 972 = some (.iconst 1) := by decide +kernel
theorem i0_973 : xIns xg 0 973 = some (.iadd) := by decide +kernel
theorem i0_974 : xIns xg 0 974 = some (.iaload) := by decide +kernel
theorem i0_975 : xIns xg 0 975 = some (.aload_n 0) := by decide +kernel
theorem i0_976 : xIns xg 0 976 = some (.iload_n 3) := by decide +kernel
theorem i0_977 : xIns xg 0 977 = some (.iconst 2) := by decide +kernel
theorem i0_978 : xIns xg 0 978 = some (.iadd) := by decide +kernel
theorem i0_979 : xIns xg 0 979 = some (.iaload) := by decide +kernel
theorem i0_980 : xIns xg 0 980 = some (.aload_n 0) := by decide +kernel
theorem i0_981 : xIns xg 0 981 = some (.iload_n 3) := by decide +kernel
theorem i0_982 : xIns xg 0 982 = some (.iconst 3) := by decide +kernel
theorem i0_983 : xIns xg 0 983 = some (.iadd) := by decide +kernel
theorem i0_984 : xIns xg 0 984 = some (.iaload) := by decide +kernel
theorem i0_985 : xIns xg 0 985 = some (.invokevirtual 121) := by decide +kernel
theorem l0_121 : xMth xg 0 121 = some (0, 183, 4, 7) := by decide +kernel
theorem i0_988 : xIns xg 0 988 = some (.if_icmp .eq 238) := by decide +kernel
theorem i0_993 : xIns xg 0 993 = some (.aload_n 1) := by decide +kernel
theorem i0_994 : xIns xg 0 994 = some (.aload_n 0) := by decide +kernel
theorem i0_995 : xIns xg 0 995 = some (.iload_n 3) := by decide +kernel
theorem i0_996 : xIns xg 0 996 = some (.iconst 1) := by decide +kernel
theorem i0_997 : xIns xg 0 997 = some (.iadd) := by decide +kernel
theorem i0_998 : xIns xg 0 998 = some (.iaload) := by decide +kernel
theorem i0_999 : xIns xg 0 999 = some (.aload_n 0) := by decide +kernel
theorem i0_1000 : xIns xg 0 1000 = some (.iload_n 3) := by decide +kernel
theorem i0_1001 : xIns xg 0 1001 = some (.iconst 2) := by decide +kernel
theorem i0_1002 : xIns xg 0 1002 = some (.iadd) := by decide +kernel
theorem i0_1003 : xIns xg 0 1003 = some (.iaload) := by decide +kernel
theorem i0_1004 : xIns xg 0 1004 = some (.aload_n 0) := by decide +kernel
theorem i0_1005 : xIns xg 0 1005 = some (.iload_n 3) := by decide +kernel
theorem i0_1006 : xIns xg 0 1006 = some (.iconst 3) := by decide +kernel
theorem i0_1007 : xIns xg 0 1007 = some (.iadd) := by decide +kernel
theorem i0_1008 : xIns xg 0 1008 = some (.iaload) := by decide +kernel
theorem i0_1009 : xIns xg 0 1009 = some (.i2l) := by decide +kernel
theorem i0_1010 : xIns xg 0 1010 = some (.bipush 32) := by decide +kernel
theorem i0_1012 : xIns xg 0 1012 = some (.lshl) := by decide +kernel
theorem i0_1013 : xIns xg 0 1013 = some (.aload_n 0) := by decide +kernel
theorem i0_1014 : xIns xg 0 1014 = some (.iload_n 3) := by decide +kernel
theorem i0_1015 : xIns xg 0 1015 = some (.iconst 4) := by decide +kernel
theorem i0_1016 : xIns xg 0 1016 = some (.iadd) := by decide +kernel
theorem i0_1017 : xIns xg 0 1017 = some (.iaload) := by decide +kernel
theorem i0_1018 : xIns xg 0 1018 = some (.i2l) := by decide +kernel
theorem i0_1019 : xIns xg 0 1019 = some (.ldc2_w 83) := by decide +kernel
theorem i0_1022 : xIns xg 0 1022 = some (.land) := by decide +kernel
theorem i0_1023 : xIns xg 0 1023 = some (.lor) := by decide +kernel
theorem i0_1024 : xIns xg 0 1024 = some (.invokevirtual 122) := by decide +kernel
theorem l0_122 : xMth xg 0 122 = some (0, 107, 4, 6) := by decide +kernel
theorem i0_1027 : xIns xg 0 1027 = some (.aload_n 2) := by decide +kernel
theorem i0_1028 : xIns xg 0 1028 = some (.aload_n 0) := by decide +kernel
theorem i0_1029 : xIns xg 0 1029 = some (.iload_n 3) := by decide +kernel
theorem i0_1030 : xIns xg 0 1030 = some (.iconst 1) := by decide +kernel
theorem i0_1031 : xIns xg 0 1031 = some (.iadd) := by decide +kernel
theorem i0_1032 : xIns xg 0 1032 = some (.iaload) := by decide +kernel
theorem i0_1033 : xIns xg 0 1033 = some (.aload_n 0) := by decide +kernel
theorem i0_1034 : xIns xg 0 1034 = some (.iload_n 3) := by decide +kernel
theorem i0_1035 : xIns xg 0 1035 = some (.iconst 2) := by decide +kernel
theorem i0_1036 : xIns xg 0 1036 = some (.iadd) := by decide +kernel
theorem i0_1037 : xIns xg 0 1037 = some (.iaload) := by decide +kernel
theorem i0_1038 : xIns xg 0 1038 = some (.aload_n 0) := by decide +kernel
theorem i0_1039 : xIns xg 0 1039 = some (.iload_n 3) := by decide +kernel
theorem i0_1040 : xIns xg 0 1040 = some (.iconst 3) := by decide +kernel
theorem i0_1041 : xIns xg 0 1041 = some (.iadd) := by decide +kernel
theorem i0_1042 : xIns xg 0 1042 = some (.iaload) := by decide +kernel
theorem i0_1043 : xIns xg 0 1043 = some (.i2l) := by decide +kernel
theorem i0_1044 : xIns xg 0 1044 = some (.bipush 32) := by decide +kernel
theorem i0_1046 : xIns xg 0 1046 = some (.lshl) := by decide +kernel
theorem i0_1047 : xIns xg 0 1047 = some (.aload_n 0) := by decide +kernel
theorem i0_1048 : xIns xg 0 1048 = some (.iload_n 3) := by decide +kernel
theorem i0_1049 : xIns xg 0 1049 = some (.iconst 4) := by decide +kernel
theorem i0_1050 : xIns xg 0 1050 = some (.iadd) := by decide +kernel
theorem i0_1051 : xIns xg 0 1051 = some (.iaload) := by decide +kernel
theorem i0_1052 : xIns xg 0 1052 = some (.i2l) := by decide +kernel
theorem i0_1053 : xIns xg 0 1053 = some (.ldc2_w 83) := by decide +kernel
theorem i0_1056 : xIns xg 0 1056 = some (.land) := by decide +kernel
theorem i0_1057 : xIns xg 0 1057 = some (.lor) := by decide +kernel
theorem i0_1058 : xIns xg 0 1058 = some (.invokevirtual 126) := by decide +kernel
theorem l0_126 : xMth xg 0 126 = some (0, 179, 4, 7) := by decide +kernel
theorem i0_1061 : xIns xg 0 1061 = some (.if_icmp .eq 165) := by decide +kernel
theorem i0_1066 : xIns xg 0 1066 = some (.aload_n 1) := by decide +kernel
theorem i0_1067 : xIns xg 0 1067 = some (.aload_n 0) := by decide +kernel
theorem i0_1068 : xIns xg 0 1068 = some (.iload_n 3) := by decide +kernel
theorem i0_1069 : xIns xg 0 1069 = some (.iconst 1) := by decide +kernel
theorem i0_1070 : xIns xg 0 1070 = some (.iadd) := by decide +kernel
theorem i0_1071 : xIns xg 0 1071 = some (.iaload) := by decide +kernel
theorem i0_1072 : xIns xg 0 1072 = some (.aload_n 0) := by decide +kernel
theorem i0_1073 : xIns xg 0 1073 = some (.iload_n 3) := by decide +kernel
theorem i0_1074 : xIns xg 0 1074 = some (.iconst 2) := by decide +kernel
theorem i0_1075 : xIns xg 0 1075 = some (.iadd) := by decide +kernel
theorem i0_1076 : xIns xg 0 1076 = some (.iaload) := by decide +kernel
theorem i0_1077 : xIns xg 0 1077 = some (.invokevirtual 127) := by decide +kernel
theorem l0_127 : xMth xg 0 127 = some (0, 100, 3, 6) := by decide +kernel
theorem i0_1080 : xIns xg 0 1080 = some (.aload_n 2) := by decide +kernel
theorem i0_1081 : xIns xg 0 1081 = some (.aload_n 0) := by decide +kernel
theorem i0_1082 : xIns xg 0 1082 = some (.iload_n 3) := by decide +kernel
theorem i0_1083 : xIns xg 0 1083 = some (.iconst 1) := by decide +kernel
theorem i0_1084 : xIns xg 0 1084 = some (.iadd) := by decide +kernel
theorem i0_1085 : xIns xg 0 1085 = some (.iaload) := by decide +kernel
theorem i0_1086 : xIns xg 0 1086 = some (.aload_n 0) := by decide +kernel
theorem i0_1087 : xIns xg 0 1087 = some (.iload_n 3) := by decide +kernel
theorem i0_1088 : xIns xg 0 1088 = some (.iconst 2) := by decide +kernel
theorem i0_1089 : xIns xg 0 1089 = some (.iadd) := by decide +kernel
theorem i0_1090 : xIns xg 0 1090 = some (.iaload) := by decide +kernel
theorem i0_1091 : xIns xg 0 1091 = some (.invokevirtual 130) := by decide +kernel
theorem l0_130 : xMth xg 0 130 = some (0, 155, 3, 7) := by decide +kernel
theorem i0_1094 : xIns xg 0 1094 = some (.lcmp) := by decide +kernel
theorem i0_1095 : xIns xg 0 1095 = some (.ifCond .eq 131) := by decide +kernel
theorem i0_1100 : xIns xg 0 1100 = some (.aload_n 1) := by decide +kernel
theorem i0_1101 : xIns xg 0 1101 = some (.aload_n 0) := by decide +kernel
theorem i0_1102 : xIns xg 0 1102 = some (.iload_n 3) := by decide +kernel
theorem i0_1103 : xIns xg 0 1103 = some (.iconst 1) := by decide +kernel
theorem i0_1104 : xIns xg 0 1104 = some (.iadd) := by decide +kernel
theorem i0_1105 : xIns xg 0 1105 = some (.iaload) := by decide +kernel
theorem i0_1106 : xIns xg 0 1106 = some (.aload_n 0) := by decide +kernel
theorem i0_1107 : xIns xg 0 1107 = some (.iload_n 3) := by decide +kernel
theorem i0_1108 : xIns xg 0 1108 = some (.iconst 2) := by decide +kernel
theorem i0_1109 : xIns xg 0 1109 = some (.iadd) := by decide +kernel
theorem i0_1110 : xIns xg 0 1110 = some (.iaload) := by decide +kernel
theorem i0_1111 : xIns xg 0 1111 = some (.aload_n 0) := by decide +kernel
theorem i0_1112 : xIns xg 0 1112 = some (.iload_n 3) := by decide +kernel
theorem i0_1113 : xIns xg 0 1113 = some (.iconst 3) := by decide +kernel
theorem i0_1114 : xIns xg 0 1114 = some (.iadd) := by decide +kernel
theorem i0_1115 : xIns xg 0 1115 = some (.iaload) := by decide +kernel
theorem i0_1116 : xIns xg 0 1116 = some (.aload_n 0) := by decide +kernel
theorem i0_1117 : xIns xg 0 1117 = some (.iload_n 3) := by decide +kernel
theorem i0_1118 : xIns xg 0 1118 = some (.iconst 4) := by decide +kernel
theorem i0_1119 : xIns xg 0 1119 = some (.iadd) := by decide +kernel
theorem i0_1120 : xIns xg 0 1120 = some (.iaload) := by decide +kernel
theorem i0_1121 : xIns xg 0 1121 = some (.aload_n 0) := by decide +kernel
theorem i0_1122 : xIns xg 0 1122 = some (.iload_n 3) := by decide +kernel
theorem i0_1123 : xIns xg 0 1123 = some (.iconst 5) := by decide +kernel
theorem i0_1124 : xIns xg 0 1124 = some (.iadd) := by decide +kernel
theorem i0_1125 : xIns xg 0 1125 = some (.iaload) := by decide +kernel
theorem i0_1126 : xIns xg 0 1126 = some (.invokevirtual 131) := by decide +kernel
theorem l0_131 : xMth xg 0 131 = some (0, 80, 6, 6) := by decide +kernel
theorem i0_1129 : xIns xg 0 1129 = some (.aload_n 2) := by decide +kernel
theorem i0_1130 : xIns xg 0 1130 = some (.aload_n 0) := by decide +kernel
theorem i0_1131 : xIns xg 0 1131 = some (.iload_n 3) := by decide +kernel
theorem i0_1132 : xIns xg 0 1132 = some (.iconst 1) := by decide +kernel
theorem i0_1133 : xIns xg 0 1133 = some (.iadd) := by decide +kernel
theorem i0_1134 : xIns xg 0 1134 = some (.iaload) := by decide +kernel
theorem i0_1135 : xIns xg 0 1135 = some (.aload_n 0) := by decide +kernel
theorem i0_1136 : xIns xg 0 1136 = some (.iload_n 3) := by decide +kernel
theorem i0_1137 : xIns xg 0 1137 = some (.iconst 2) := by decide +kernel
theorem i0_1138 : xIns xg 0 1138 = some (.iadd) := by decide +kernel
theorem i0_1139 : xIns xg 0 1139 = some (.iaload) := by decide +kernel
theorem i0_1140 : xIns xg 0 1140 = some (.aload_n 0) := by decide +kernel
theorem i0_1141 : xIns xg 0 1141 = some (.iload_n 3) := by decide +kernel
theorem i0_1142 : xIns xg 0 1142 = some (.iconst 3) := by decide +kernel
theorem i0_1143 : xIns xg 0 1143 = some (.iadd) := by decide +kernel
theorem i0_1144 : xIns xg 0 1144 = some (.iaload) := by decide +kernel
theorem i0_1145 : xIns xg 0 1145 = some (.aload_n 0) := by decide +kernel
theorem i0_1146 : xIns xg 0 1146 = some (.iload_n 3) := by decide +kernel
theorem i0_1147 : xIns xg 0 1147 = some (.iconst 4) := by decide +kernel
theorem i0_1148 : xIns xg 0 1148 = some (.iadd) := by decide +kernel
theorem i0_1149 : xIns xg 0 1149 = some (.iaload) := by decide +kernel
theorem i0_1150 : xIns xg 0 1150 = some (.aload_n 0) := by decide +kernel
theorem i0_1151 : xIns xg 0 1151 = some (.iload_n 3) := by decide +kernel
theorem i0_1152 : xIns xg 0 1152 = some (.iconst 5) := by decide +kernel
theorem i0_1153 : xIns xg 0 1153 = some (.iadd) := by decide +kernel
theorem i0_1154 : xIns xg 0 1154 = some (.iaload) := by decide +kernel
theorem i0_1155 : xIns xg 0 1155 = some (.invokevirtual 135) := by decide +kernel
theorem l0_135 : xMth xg 0 135 = some (0, 123, 6, 7) := by decide +kernel
theorem i0_1158 : xIns xg 0 1158 = some (.if_icmp .eq 68) := by decide +kernel
theorem i0_1163 : xIns xg 0 1163 = some (.aload_n 1) := by decide +kernel
theorem i0_1164 : xIns xg 0 1164 = some (.aload_n 0) := by decide +kernel
theorem i0_1165 : xIns xg 0 1165 = some (.iload_n 3) := by decide +kernel
theorem i0_1166 : xIns xg 0 1166 = some (.iconst 1) := by decide +kernel
theorem i0_1167 : xIns xg 0 1167 = some (.iadd) := by decide +kernel
theorem i0_1168 : xIns xg 0 1168 = some (.iaload) := by decide +kernel
theorem i0_1169 : xIns xg 0 1169 = some (.aload_n 0) := by decide +kernel
theorem i0_1170 : xIns xg 0 1170 = some (.iload_n 3) := by decide +kernel
theorem i0_1171 : xIns xg 0 1171 = some (.iconst 2) := by decide +kernel
theorem i0_1172 : xIns xg 0 1172 = some (.iadd) := by decide +kernel
theorem i0_1173 : xIns xg 0 1173 = some (.iaload) := by decide +kernel
theorem i0_1174 : xIns xg 0 1174 = some (.aload_n 0) := by decide +kernel
theorem i0_1175 : xIns xg 0 1175 = some (.iload_n 3) := by decide +kernel
theorem i0_1176 : xIns xg 0 1176 = some (.iconst 3) := by decide +kernel
theorem i0_1177 : xIns xg 0 1177 = some (.iadd) := by decide +kernel
theorem i0_1178 : xIns xg 0 1178 = some (.iaload) := by decide +kernel
theorem i0_1179 : xIns xg 0 1179 = some (.aload_n 0) := by decide +kernel
theorem i0_1180 : xIns xg 0 1180 = some (.iload_n 3) := by decide +kernel
theorem i0_1181 : xIns xg 0 1181 = some (.iconst 4) := by decide +kernel
theorem i0_1182 : xIns xg 0 1182 = some (.iadd) := by decide +kernel
theorem i0_1183 : xIns xg 0 1183 = some (.iaload) := by decide +kernel
theorem i0_1184 : xIns xg 0 1184 = some (.aload_n 0) := by decide +kernel
theorem i0_1185 : xIns xg 0 1185 = some (.iload_n 3) := by decide +kernel
theorem i0_1186 : xIns xg 0 1186 = some (.iconst 5) := by decide +kernel
theorem i0_1187 : xIns xg 0 1187 = some (.iadd) := by decide +kernel
theorem i0_1188 : xIns xg 0 1188 = some (.iaload) := by decide +kernel
theorem i0_1189 : xIns xg 0 1189 = some (.invokevirtual 136) := by decide +kernel
theorem l0_136 : xMth xg 0 136 = some (0, 101, 6, 6) := by decide +kernel
theorem i0_1192 : xIns xg 0 1192 = some (.aload_n 2) := by decide +kernel
theorem i0_1193 : xIns xg 0 1193 = some (.aload_n 0) := by decide +kernel
theorem i0_1194 : xIns xg 0 1194 = some (.iload_n 3) := by decide +kernel
theorem i0_1195 : xIns xg 0 1195 = some (.iconst 1) := by decide +kernel
theorem i0_1196 : xIns xg 0 1196 = some (.iadd) := by decide +kernel
theorem i0_1197 : xIns xg 0 1197 = some (.iaload) := by decide +kernel
theorem i0_1198 : xIns xg 0 1198 = some (.aload_n 0) := by decide +kernel
theorem i0_1199 : xIns xg 0 1199 = some (.iload_n 3) := by decide +kernel
theorem i0_1200 : xIns xg 0 1200 = some (.iconst 2) := by decide +kernel
theorem i0_1201 : xIns xg 0 1201 = some (.iadd) := by decide +kernel
theorem i0_1202 : xIns xg 0 1202 = some (.iaload) := by decide +kernel
theorem i0_1203 : xIns xg 0 1203 = some (.aload_n 0) := by decide +kernel
theorem i0_1204 : xIns xg 0 1204 = some (.iload_n 3) := by decide +kernel
theorem i0_1205 : xIns xg 0 1205 = some (.iconst 3) := by decide +kernel
theorem i0_1206 : xIns xg 0 1206 = some (.iadd) := by decide +kernel
theorem i0_1207 : xIns xg 0 1207 = some (.iaload) := by decide +kernel
theorem i0_1208 : xIns xg 0 1208 = some (.aload_n 0) := by decide +kernel
theorem i0_1209 : xIns xg 0 1209 = some (.iload_n 3) := by decide +kernel
theorem i0_1210 : xIns xg 0 1210 = some (.iconst 4) := by decide +kernel
theorem i0_1211 : xIns xg 0 1211 = some (.iadd) := by decide +kernel
theorem i0_1212 : xIns xg 0 1212 = some (.iaload) := by decide +kernel
theorem i0_1213 : xIns xg 0 1213 = some (.aload_n 0) := by decide +kernel
theorem i0_1214 : xIns xg 0 1214 = some (.iload_n 3) := by decide +kernel
theorem i0_1215 : xIns xg 0 1215 = some (.iconst 5) := by decide +kernel
theorem i0_1216 : xIns xg 0 1216 = some (.iadd) := by decide +kernel
theorem i0_1217 : xIns xg 0 1217 = some (.iaload) := by decide +kernel
theorem i0_1218 : xIns xg 0 1218 = some (.invokevirtual 139) := by decide +kernel
theorem l0_139 : xMth xg 0 139 = some (0, 160, 6, 7) := by decide +kernel
theorem i0_1221 : xIns xg 0 1221 = some (.if_icmp .eq 5) := by decide +kernel
theorem x_ceq (x : Int32) : xcond .eq x x = true := decide_eq_true rfl
theorem x_cmps (x : Int64) : lg_cmp x x = 0 := by
  have h : ¬ x > x := fun z => absurd (Int64.lt_iff_toInt_lt.mp z) (by omega)
  unfold lg_cmp
  rw [if_neg h, if_pos rfl]
theorem wSal6 {G : xG} {xs : Nat → Int32} {d M pc : Nat} {L : xL} {st : List Value} {h : xH} {Q : xR → Prop} (pc' n : Nat) {x0 : Nat} {j : Int32} (hi : xIns G M pc = some .iaload) (hj : ¬ (j < 0 ∨ 6 ≤ j.toNatClampNeg)) (hn : j.toNatClampNeg = n) (hp : pc + 1 = pc') (k : xT G (6, xs) d M pc' L (.int (xs n) :: st) h Q) : xT G (6, xs) d M pc L (.int j :: .retAddr x0 :: st) h Q := by
  subst hn
  exact wSal pc' hi hj hp k
set_option maxHeartbeats 4000000 in
set_option maxRecDepth 100000 in
theorem law_end {d : Nat} {xs : Nat → Int32} {Q : xR → Prop} (h : xH) (hQ : ∀ h, Q (some (.int 1), h, 0, 0)) : xT xg (6, xs) d 0 1226 [(3, .int 0), (2, .ref 77), (1, .ref 0), (0, .retAddr 0)] [] h Q := by
  refine wInc 1229 [(3, .int 6), (2, .ref 77), (1, .ref 0), (0, .retAddr 0)] 6 i0_1226 m0 (by decide) rfl (by decide) rfl rfl ?_
  refine wGo 18 i0_1229 rfl ?_
  refine wLin 19 i0_18 rfl rfl ?_
  refine wLsn 20 i0_19 rfl rfl ?_
  refine wSln0 21 i0_20 rfl ?_
  refine tTop (v := 6) rfl ?_
  refine wKb 23 6 i0_21 (by decide) rfl ?_
  refine wA 24 i0_23 rfl rfl rfl ?_
  refine tTop (v := 0) (by decide) ?_
  refine wCT 1232 i0_24 rfl (by decide) ?_
  refine wK 1233 1 i0_1232 (by decide) rfl ?_
  refine wRi i0_1233 m0 (by decide) ?_
  exact hQ _
set_option maxHeartbeats 4000000 in
set_option maxRecDepth 100000 in
theorem law_c0 {d : Nat} {xs : Nat → Int32} {Q : xR → Prop} (hQ : ∀ h, Q (some (.int 1), h, 0, 0)) : xT xg (6, xs) (d + 13) 0 164 [(3, .int 0), (2, .ref 77), (1, .ref 0), (0, .retAddr 0)] [] (hC mC) Q := by
  refine wLan 165 i0_164 rfl rfl ?_
  refine wLsn 166 i0_165 rfl rfl ?_
  refine wLin 167 i0_166 rfl rfl ?_
  refine wK 168 1 i0_167 (by decide) rfl ?_
  refine wA 169 i0_168 rfl rfl rfl ?_
  refine tTop (v := 1) (by decide) ?_
  refine wSal6 170 1 i0_169 (by decide) rfl rfl ?_
  refine jUse 173 [.ref 0, .int (xs 1)] [] [(0, .ref 0), (1, .int (xs 1))] i0_170 rfl (xlk0 l0_13) (Or.inl rfl) m86 rfl rfl (Nat.le_of_ble_eq_true rfl) (Nat.le_of_ble_eq_true rfl) (Nat.le_of_ble_eq_true rfl) rfl rfl rfl (q_feed mC _) ?_
  rintro ⟨v, h', a, b⟩ ⟨e1, ⟨f, e2⟩, e3⟩
  cases e1
  cases e2
  refine ⟨e3, ?_⟩
  show xT xg (6, xs) _ 0 173 [(3, .int 0), (2, .ref 77), (1, .ref 0), (0, .retAddr 0)] [.int _] _ _
  refine wLan 174 i0_173 rfl rfl ?_
  refine wLsn 175 i0_174 rfl rfl ?_
  refine wLin 176 i0_175 rfl rfl ?_
  refine wK 177 1 i0_176 (by decide) rfl ?_
  refine wA 178 i0_177 rfl rfl rfl ?_
  refine tTop (v := 1) (by decide) ?_
  refine wSal6 179 1 i0_178 (by decide) rfl rfl ?_
  refine tHeap (h' := hM f) rfl ?_
  refine jUse 182 [.ref 77, .int (xs 1)] [.int _] [(0, .ref 77), (1, .int (xs 1))] i0_179 rfl (xlk0 l0_17) (Or.inl rfl) m131 rfl rfl (Nat.le_of_ble_eq_true rfl) (Nat.le_of_ble_eq_true rfl) (Nat.le_of_ble_eq_true rfl) rfl rfl rfl (r_feed f _) ?_
  rintro ⟨v, h', a, b⟩ ⟨e1, e3⟩
  cases e1
  refine ⟨e3, ?_⟩
  show xT xg (6, xs) _ 0 182 [(3, .int 0), (2, .ref 77), (1, .ref 0), (0, .retAddr 0)] [.int _, .int _] _ _
  refine wCT 1226 i0_182 rfl (x_ceq _) ?_
  exact law_end _ hQ
set_option maxHeartbeats 4000000 in
set_option maxRecDepth 100000 in
theorem law_c1 {d : Nat} {xs : Nat → Int32} {Q : xR → Prop} (hQ : ∀ h, Q (some (.int 1), h, 0, 0)) : xT xg (6, xs) (d + 13) 0 187 [(3, .int 0), (2, .ref 77), (1, .ref 0), (0, .retAddr 0)] [] (hC mC) Q := by
  refine wLan 188 i0_187 rfl rfl ?_
  refine wLsn 189 i0_188 rfl rfl ?_
  refine wLin 190 i0_189 rfl rfl ?_
  refine wK 191 1 i0_190 (by decide) rfl ?_
  refine wA 192 i0_191 rfl rfl rfl ?_
  refine tTop (v := 1) (by decide) ?_
  refine wSal6 193 1 i0_192 (by decide) rfl rfl ?_
  refine jUse 196 [.ref 0, .int (xs 1)] [] [(0, .ref 0), (1, .int (xs 1))] i0_193 rfl (xlk0 l0_18) (Or.inl rfl) m117 rfl rfl (Nat.le_of_ble_eq_true rfl) (Nat.le_of_ble_eq_true rfl) (Nat.le_of_ble_eq_true rfl) rfl rfl rfl (q_text mC _) ?_
  rintro ⟨v, h', a, b⟩ ⟨e1, ⟨f, e2⟩, e3⟩
  cases e1
  cases e2
  refine ⟨e3, ?_⟩
  show xT xg (6, xs) _ 0 196 [(3, .int 0), (2, .ref 77), (1, .ref 0), (0, .retAddr 0)] [.int _] _ _
  refine wLan 197 i0_196 rfl rfl ?_
  refine wLsn 198 i0_197 rfl rfl ?_
  refine wLin 199 i0_198 rfl rfl ?_
  refine wK 200 1 i0_199 (by decide) rfl ?_
  refine wA 201 i0_200 rfl rfl rfl ?_
  refine tTop (v := 1) (by decide) ?_
  refine wSal6 202 1 i0_201 (by decide) rfl rfl ?_
  refine tHeap (h' := hM f) rfl ?_
  refine jUse 205 [.ref 77, .int (xs 1)] [.int _] [(0, .ref 77), (1, .int (xs 1))] i0_202 rfl (xlk0 l0_21) (Or.inl rfl) m190 rfl rfl (Nat.le_of_ble_eq_true rfl) (Nat.le_of_ble_eq_true rfl) (Nat.le_of_ble_eq_true rfl) rfl rfl rfl (r_text f _) ?_
  rintro ⟨v, h', a, b⟩ ⟨e1, e3⟩
  cases e1
  refine ⟨e3, ?_⟩
  show xT xg (6, xs) _ 0 205 [(3, .int 0), (2, .ref 77), (1, .ref 0), (0, .retAddr 0)] [.int _, .int _] _ _
  refine wCT 1226 i0_205 rfl (x_ceq _) ?_
  exact law_end _ hQ
set_option maxHeartbeats 4000000 in
set_option maxRecDepth 100000 in
theorem law_c2 {d : Nat} {xs : Nat → Int32} {Q : xR → Prop} (hQ : ∀ h, Q (some (.int 1), h, 0, 0)) : xT xg (6, xs) (d + 13) 0 210 [(3, .int 0), (2, .ref 77), (1, .ref 0), (0, .retAddr 0)] [] (hC mC) Q := by
  refine wLan 211 i0_210 rfl rfl ?_
  refine wLsn 212 i0_211 rfl rfl ?_
  refine wLin 213 i0_212 rfl rfl ?_
  refine wK 214 1 i0_213 (by decide) rfl ?_
  refine wA 215 i0_214 rfl rfl rfl ?_
  refine tTop (v := 1) (by decide) ?_
  refine wSal6 216 1 i0_215 (by decide) rfl rfl ?_
  refine jUse 219 [.ref 0, .int (xs 1)] [] [(0, .ref 0), (1, .int (xs 1))] i0_216 rfl (xlk0 l0_22) (Or.inl rfl) m84 rfl rfl (Nat.le_of_ble_eq_true rfl) (Nat.le_of_ble_eq_true rfl) (Nat.le_of_ble_eq_true rfl) rfl rfl rfl (q_empty mC _) ?_
  rintro ⟨v, h', a, b⟩ ⟨e1, ⟨f, e2⟩, e3⟩
  cases e1
  cases e2
  refine ⟨e3, ?_⟩
  show xT xg (6, xs) _ 0 219 [(3, .int 0), (2, .ref 77), (1, .ref 0), (0, .retAddr 0)] [.int _] _ _
  refine wLan 220 i0_219 rfl rfl ?_
  refine wLsn 221 i0_220 rfl rfl ?_
  refine wLin 222 i0_221 rfl rfl ?_
  refine wK 223 1 i0_222 (by decide) rfl ?_
  refine wA 224 i0_223 rfl rfl rfl ?_
  refine tTop (v := 1) (by decide) ?_
  refine wSal6 225 1 i0_224 (by decide) rfl rfl ?_
  refine tHeap (h' := hM f) rfl ?_
  refine jUse 228 [.ref 77, .int (xs 1)] [.int _] [(0, .ref 77), (1, .int (xs 1))] i0_225 rfl (xlk0 l0_25) (Or.inl rfl) m128 rfl rfl (Nat.le_of_ble_eq_true rfl) (Nat.le_of_ble_eq_true rfl) (Nat.le_of_ble_eq_true rfl) rfl rfl rfl (r_empty f _) ?_
  rintro ⟨v, h', a, b⟩ ⟨e1, e3⟩
  cases e1
  refine ⟨e3, ?_⟩
  show xT xg (6, xs) _ 0 228 [(3, .int 0), (2, .ref 77), (1, .ref 0), (0, .retAddr 0)] [.int _, .int _] _ _
  refine wCT 1226 i0_228 rfl (x_ceq _) ?_
  exact law_end _ hQ
set_option maxHeartbeats 4000000 in
set_option maxRecDepth 100000 in
theorem law_c3 {d : Nat} {xs : Nat → Int32} {Q : xR → Prop} (hQ : ∀ h, Q (some (.int 1), h, 0, 0)) : xT xg (6, xs) (d + 13) 0 233 [(3, .int 0), (2, .ref 77), (1, .ref 0), (0, .retAddr 0)] [] (hC mC) Q := by
  refine wLan 234 i0_233 rfl rfl ?_
  refine wLsn 235 i0_234 rfl rfl ?_
  refine wLin 236 i0_235 rfl rfl ?_
  refine wK 237 1 i0_236 (by decide) rfl ?_
  refine wA 238 i0_237 rfl rfl rfl ?_
  refine tTop (v := 1) (by decide) ?_
  refine wSal6 239 1 i0_238 (by decide) rfl rfl ?_
  refine wLsn 240 i0_239 rfl rfl ?_
  refine wLin 241 i0_240 rfl rfl ?_
  refine wK 242 2 i0_241 (by decide) rfl ?_
  refine wA 243 i0_242 rfl rfl rfl ?_
  refine tTop (v := 2) (by decide) ?_
  refine wSal6 244 2 i0_243 (by decide) rfl rfl ?_
  refine wLsn 245 i0_244 rfl rfl ?_
  refine wLin 246 i0_245 rfl rfl ?_
  refine wK 247 3 i0_246 (by decide) rfl ?_
  refine wA 248 i0_247 rfl rfl rfl ?_
  refine tTop (v := 3) (by decide) ?_
  refine wSal6 249 3 i0_248 (by decide) rfl rfl ?_
  refine jUse 252 [.ref 0, .int (xs 1), .int (xs 2), .int (xs 3)] [] [(0, .ref 0), (1, .int (xs 1)), (2, .int (xs 2)), (3, .int (xs 3))] i0_249 rfl (xlk0 l0_26) (Or.inl rfl) m105 rfl rfl (Nat.le_of_ble_eq_true rfl) (Nat.le_of_ble_eq_true rfl) (Nat.le_of_ble_eq_true rfl) rfl rfl rfl (q_part mC _ _ _) ?_
  rintro ⟨v, h', a, b⟩ ⟨e1, ⟨f, e2⟩, e3⟩
  cases e1
  cases e2
  refine ⟨e3, ?_⟩
  show xT xg (6, xs) _ 0 252 [(3, .int 0), (2, .ref 77), (1, .ref 0), (0, .retAddr 0)] [.int _] _ _
  refine wLan 253 i0_252 rfl rfl ?_
  refine wLsn 254 i0_253 rfl rfl ?_
  refine wLin 255 i0_254 rfl rfl ?_
  refine wK 256 1 i0_255 (by decide) rfl ?_
  refine wA 257 i0_256 rfl rfl rfl ?_
  refine tTop (v := 1) (by decide) ?_
  refine wSal6 258 1 i0_257 (by decide) rfl rfl ?_
  refine wLsn 259 i0_258 rfl rfl ?_
  refine wLin 260 i0_259 rfl rfl ?_
  refine wK 261 2 i0_260 (by decide) rfl ?_
  refine wA 262 i0_261 rfl rfl rfl ?_
  refine tTop (v := 2) (by decide) ?_
  refine wSal6 263 2 i0_262 (by decide) rfl rfl ?_
  refine wLsn 264 i0_263 rfl rfl ?_
  refine wLin 265 i0_264 rfl rfl ?_
  refine wK 266 3 i0_265 (by decide) rfl ?_
  refine wA 267 i0_266 rfl rfl rfl ?_
  refine tTop (v := 3) (by decide) ?_
  refine wSal6 268 3 i0_267 (by decide) rfl rfl ?_
  refine tHeap (h' := hM f) rfl ?_
  refine jUse 271 [.ref 77, .int (xs 1), .int (xs 2), .int (xs 3)] [.int _] [(0, .ref 77), (1, .int (xs 1)), (2, .int (xs 2)), (3, .int (xs 3))] i0_268 rfl (xlk0 l0_30) (Or.inl rfl) m173 rfl rfl (Nat.le_of_ble_eq_true rfl) (Nat.le_of_ble_eq_true rfl) (Nat.le_of_ble_eq_true rfl) rfl rfl rfl (r_part f _ _ _) ?_
  rintro ⟨v, h', a, b⟩ ⟨e1, e3⟩
  cases e1
  refine ⟨e3, ?_⟩
  show xT xg (6, xs) _ 0 271 [(3, .int 0), (2, .ref 77), (1, .ref 0), (0, .retAddr 0)] [.int _, .int _] _ _
  refine wCT 1226 i0_271 rfl (x_ceq _) ?_
  exact law_end _ hQ
set_option maxHeartbeats 4000000 in
set_option maxRecDepth 100000 in
theorem law_c4 {d : Nat} {xs : Nat → Int32} {Q : xR → Prop} (hQ : ∀ h, Q (some (.int 1), h, 0, 0)) : xT xg (6, xs) (d + 13) 0 276 [(3, .int 0), (2, .ref 77), (1, .ref 0), (0, .retAddr 0)] [] (hC mC) Q := by
  refine wLan 277 i0_276 rfl rfl ?_
  refine wLsn 278 i0_277 rfl rfl ?_
  refine wLin 279 i0_278 rfl rfl ?_
  refine wK 280 1 i0_279 (by decide) rfl ?_
  refine wA 281 i0_280 rfl rfl rfl ?_
  refine tTop (v := 1) (by decide) ?_
  refine wSal6 282 1 i0_281 (by decide) rfl rfl ?_
  refine wLsn 283 i0_282 rfl rfl ?_
  refine wLin 284 i0_283 rfl rfl ?_
  refine wK 285 2 i0_284 (by decide) rfl ?_
  refine wA 286 i0_285 rfl rfl rfl ?_
  refine tTop (v := 2) (by decide) ?_
  refine wSal6 287 2 i0_286 (by decide) rfl rfl ?_
  refine jUse 290 [.ref 0, .int (xs 1), .int (xs 2)] [] [(0, .ref 0), (1, .int (xs 1)), (2, .int (xs 2))] i0_287 rfl (xlk0 l0_31) (Or.inl rfl) m104 rfl rfl (Nat.le_of_ble_eq_true rfl) (Nat.le_of_ble_eq_true rfl) (Nat.le_of_ble_eq_true rfl) rfl rfl rfl (q_number mC _ _) ?_
  rintro ⟨v, h', a, b⟩ ⟨e1, ⟨f, e2⟩, e3⟩
  cases e1
  cases e2
  refine ⟨e3, ?_⟩
  show xT xg (6, xs) _ 0 290 [(3, .int 0), (2, .ref 77), (1, .ref 0), (0, .retAddr 0)] [.long _] _ _
  refine wLan 291 i0_290 rfl rfl ?_
  refine wLsn 292 i0_291 rfl rfl ?_
  refine wLin 293 i0_292 rfl rfl ?_
  refine wK 294 1 i0_293 (by decide) rfl ?_
  refine wA 295 i0_294 rfl rfl rfl ?_
  refine tTop (v := 1) (by decide) ?_
  refine wSal6 296 1 i0_295 (by decide) rfl rfl ?_
  refine wLsn 297 i0_296 rfl rfl ?_
  refine wLin 298 i0_297 rfl rfl ?_
  refine wK 299 2 i0_298 (by decide) rfl ?_
  refine wA 300 i0_299 rfl rfl rfl ?_
  refine tTop (v := 2) (by decide) ?_
  refine wSal6 301 2 i0_300 (by decide) rfl rfl ?_
  refine tHeap (h' := hM f) rfl ?_
  refine jUse 304 [.ref 77, .int (xs 1), .int (xs 2)] [.long _] [(0, .ref 77), (1, .int (xs 1)), (2, .int (xs 2))] i0_301 rfl (xlk0 l0_35) (Or.inl rfl) m169 rfl rfl (Nat.le_of_ble_eq_true rfl) (Nat.le_of_ble_eq_true rfl) (Nat.le_of_ble_eq_true rfl) rfl rfl rfl (r_number f _ _) ?_
  rintro ⟨v, h', a, b⟩ ⟨e1, e3⟩
  cases e1
  refine ⟨e3, ?_⟩
  show xT xg (6, xs) _ 0 304 [(3, .int 0), (2, .ref 77), (1, .ref 0), (0, .retAddr 0)] [.long _, .long _] _ _
  refine wA 305 i0_304 rfl rfl rfl ?_
  refine tTop (v := 0) (x_cmps _) ?_
  refine wZT 1226 i0_305 rfl (by decide) ?_
  exact law_end _ hQ
set_option maxHeartbeats 4000000 in
set_option maxRecDepth 100000 in
theorem law_c5 {d : Nat} {xs : Nat → Int32} {Q : xR → Prop} (hQ : ∀ h, Q (some (.int 1), h, 0, 0)) : xT xg (6, xs) (d + 13) 0 310 [(3, .int 0), (2, .ref 77), (1, .ref 0), (0, .retAddr 0)] [] (hC mC) Q := by
  refine wLan 311 i0_310 rfl rfl ?_
  refine wLsn 312 i0_311 rfl rfl ?_
  refine wLin 313 i0_312 rfl rfl ?_
  refine wK 314 1 i0_313 (by decide) rfl ?_
  refine wA 315 i0_314 rfl rfl rfl ?_
  refine tTop (v := 1) (by decide) ?_
  refine wSal6 316 1 i0_315 (by decide) rfl rfl ?_
  refine wLsn 317 i0_316 rfl rfl ?_
  refine wLin 318 i0_317 rfl rfl ?_
  refine wK 319 2 i0_318 (by decide) rfl ?_
  refine wA 320 i0_319 rfl rfl rfl ?_
  refine tTop (v := 2) (by decide) ?_
  refine wSal6 321 2 i0_320 (by decide) rfl rfl ?_
  refine wLsn 322 i0_321 rfl rfl ?_
  refine wLin 323 i0_322 rfl rfl ?_
  refine wK 324 3 i0_323 (by decide) rfl ?_
  refine wA 325 i0_324 rfl rfl rfl ?_
  refine tTop (v := 3) (by decide) ?_
  refine wSal6 326 3 i0_325 (by decide) rfl rfl ?_
  refine jUse 329 [.ref 0, .int (xs 1), .int (xs 2), .int (xs 3)] [] [(0, .ref 0), (1, .int (xs 1)), (2, .int (xs 2)), (3, .int (xs 3))] i0_326 rfl (xlk0 l0_36) (Or.inl rfl) m85 rfl rfl (Nat.le_of_ble_eq_true rfl) (Nat.le_of_ble_eq_true rfl) (Nat.le_of_ble_eq_true rfl) rfl rfl rfl (q_entry mC _ _ _) ?_
  rintro ⟨v, h', a, b⟩ ⟨e1, ⟨f, e2⟩, e3⟩
  cases e1
  cases e2
  refine ⟨e3, ?_⟩
  show xT xg (6, xs) _ 0 329 [(3, .int 0), (2, .ref 77), (1, .ref 0), (0, .retAddr 0)] [.long _] _ _
  refine wLan 330 i0_329 rfl rfl ?_
  refine wLsn 331 i0_330 rfl rfl ?_
  refine wLin 332 i0_331 rfl rfl ?_
  refine wK 333 1 i0_332 (by decide) rfl ?_
  refine wA 334 i0_333 rfl rfl rfl ?_
  refine tTop (v := 1) (by decide) ?_
  refine wSal6 335 1 i0_334 (by decide) rfl rfl ?_
  refine wLsn 336 i0_335 rfl rfl ?_
  refine wLin 337 i0_336 rfl rfl ?_
  refine wK 338 2 i0_337 (by decide) rfl ?_
  refine wA 339 i0_338 rfl rfl rfl ?_
  refine tTop (v := 2) (by decide) ?_
  refine wSal6 340 2 i0_339 (by decide) rfl rfl ?_
  refine wLsn 341 i0_340 rfl rfl ?_
  refine wLin 342 i0_341 rfl rfl ?_
  refine wK 343 3 i0_342 (by decide) rfl ?_
  refine wA 344 i0_343 rfl rfl rfl ?_
  refine tTop (v := 3) (by decide) ?_
  refine wSal6 345 3 i0_344 (by decide) rfl rfl ?_
  refine tHeap (h' := hM f) rfl ?_
  refine jUse 348 [.ref 77, .int (xs 1), .int (xs 2), .int (xs 3)] [.long _] [(0, .ref 77), (1, .int (xs 1)), (2, .int (xs 2)), (3, .int (xs 3))] i0_345 rfl (xlk0 l0_40) (Or.inl rfl) m129 rfl rfl (Nat.le_of_ble_eq_true rfl) (Nat.le_of_ble_eq_true rfl) (Nat.le_of_ble_eq_true rfl) rfl rfl rfl (r_entry f _ _ _) ?_
  rintro ⟨v, h', a, b⟩ ⟨e1, e3⟩
  cases e1
  refine ⟨e3, ?_⟩
  show xT xg (6, xs) _ 0 348 [(3, .int 0), (2, .ref 77), (1, .ref 0), (0, .retAddr 0)] [.long _, .long _] _ _
  refine wA 349 i0_348 rfl rfl rfl ?_
  refine tTop (v := 0) (x_cmps _) ?_
  refine wZT 1226 i0_349 rfl (by decide) ?_
  exact law_end _ hQ
set_option maxHeartbeats 4000000 in
set_option maxRecDepth 100000 in
theorem law_c6 {d : Nat} {xs : Nat → Int32} {Q : xR → Prop} (hQ : ∀ h, Q (some (.int 1), h, 0, 0)) : xT xg (6, xs) (d + 13) 0 354 [(3, .int 0), (2, .ref 77), (1, .ref 0), (0, .retAddr 0)] [] (hC mC) Q := by
  refine wLan 355 i0_354 rfl rfl ?_
  refine wLsn 356 i0_355 rfl rfl ?_
  refine wLin 357 i0_356 rfl rfl ?_
  refine wK 358 1 i0_357 (by decide) rfl ?_
  refine wA 359 i0_358 rfl rfl rfl ?_
  refine tTop (v := 1) (by decide) ?_
  refine wSal6 360 1 i0_359 (by decide) rfl rfl ?_
  refine wLsn 361 i0_360 rfl rfl ?_
  refine wLin 362 i0_361 rfl rfl ?_
  refine wK 363 2 i0_362 (by decide) rfl ?_
  refine wA 364 i0_363 rfl rfl rfl ?_
  refine tTop (v := 2) (by decide) ?_
  refine wSal6 365 2 i0_364 (by decide) rfl rfl ?_
  refine wLsn 366 i0_365 rfl rfl ?_
  refine wLin 367 i0_366 rfl rfl ?_
  refine wK 368 3 i0_367 (by decide) rfl ?_
  refine wA 369 i0_368 rfl rfl rfl ?_
  refine tTop (v := 3) (by decide) ?_
  refine wSal6 370 3 i0_369 (by decide) rfl rfl ?_
  refine jUse 373 [.ref 0, .int (xs 1), .int (xs 2), .int (xs 3)] [] [(0, .ref 0), (1, .int (xs 1)), (2, .int (xs 2)), (3, .int (xs 3))] i0_370 rfl (xlk0 l0_41) (Or.inl rfl) m119 rfl rfl (Nat.le_of_ble_eq_true rfl) (Nat.le_of_ble_eq_true rfl) (Nat.le_of_ble_eq_true rfl) rfl rfl rfl (q_twist mC _ _ _) ?_
  rintro ⟨v, h', a, b⟩ ⟨e1, ⟨f, e2⟩, e3⟩
  cases e1
  cases e2
  refine ⟨e3, ?_⟩
  show xT xg (6, xs) _ 0 373 [(3, .int 0), (2, .ref 77), (1, .ref 0), (0, .retAddr 0)] [.int _] _ _
  refine wLan 374 i0_373 rfl rfl ?_
  refine wLsn 375 i0_374 rfl rfl ?_
  refine wLin 376 i0_375 rfl rfl ?_
  refine wK 377 1 i0_376 (by decide) rfl ?_
  refine wA 378 i0_377 rfl rfl rfl ?_
  refine tTop (v := 1) (by decide) ?_
  refine wSal6 379 1 i0_378 (by decide) rfl rfl ?_
  refine wLsn 380 i0_379 rfl rfl ?_
  refine wLin 381 i0_380 rfl rfl ?_
  refine wK 382 2 i0_381 (by decide) rfl ?_
  refine wA 383 i0_382 rfl rfl rfl ?_
  refine tTop (v := 2) (by decide) ?_
  refine wSal6 384 2 i0_383 (by decide) rfl rfl ?_
  refine wLsn 385 i0_384 rfl rfl ?_
  refine wLin 386 i0_385 rfl rfl ?_
  refine wK 387 3 i0_386 (by decide) rfl ?_
  refine wA 388 i0_387 rfl rfl rfl ?_
  refine tTop (v := 3) (by decide) ?_
  refine wSal6 389 3 i0_388 (by decide) rfl rfl ?_
  refine tHeap (h' := hM f) rfl ?_
  refine jUse 392 [.ref 77, .int (xs 1), .int (xs 2), .int (xs 3)] [.int _] [(0, .ref 77), (1, .int (xs 1)), (2, .int (xs 2)), (3, .int (xs 3))] i0_389 rfl (xlk0 l0_44) (Or.inl rfl) m194 rfl rfl (Nat.le_of_ble_eq_true rfl) (Nat.le_of_ble_eq_true rfl) (Nat.le_of_ble_eq_true rfl) rfl rfl rfl (r_twist f _ _ _) ?_
  rintro ⟨v, h', a, b⟩ ⟨e1, e3⟩
  cases e1
  refine ⟨e3, ?_⟩
  show xT xg (6, xs) _ 0 392 [(3, .int 0), (2, .ref 77), (1, .ref 0), (0, .retAddr 0)] [.int _, .int _] _ _
  refine wCT 1226 i0_392 rfl (x_ceq _) ?_
  exact law_end _ hQ
set_option maxHeartbeats 4000000 in
set_option maxRecDepth 100000 in
theorem law_c7 {d : Nat} {xs : Nat → Int32} {Q : xR → Prop} (hQ : ∀ h, Q (some (.int 1), h, 0, 0)) : xT xg (6, xs) (d + 13) 0 397 [(3, .int 0), (2, .ref 77), (1, .ref 0), (0, .retAddr 0)] [] (hC mC) Q := by
  refine wLan 398 i0_397 rfl rfl ?_
  refine wLsn 399 i0_398 rfl rfl ?_
  refine wLin 400 i0_399 rfl rfl ?_
  refine wK 401 1 i0_400 (by decide) rfl ?_
  refine wA 402 i0_401 rfl rfl rfl ?_
  refine tTop (v := 1) (by decide) ?_
  refine wSal6 403 1 i0_402 (by decide) rfl rfl ?_
  refine wLsn 404 i0_403 rfl rfl ?_
  refine wLin 405 i0_404 rfl rfl ?_
  refine wK 406 2 i0_405 (by decide) rfl ?_
  refine wA 407 i0_406 rfl rfl rfl ?_
  refine tTop (v := 2) (by decide) ?_
  refine wSal6 408 2 i0_407 (by decide) rfl rfl ?_
  refine wLsn 409 i0_408 rfl rfl ?_
  refine wLin 410 i0_409 rfl rfl ?_
  refine wK 411 3 i0_410 (by decide) rfl ?_
  refine wA 412 i0_411 rfl rfl rfl ?_
  refine tTop (v := 3) (by decide) ?_
  refine wSal6 413 3 i0_412 (by decide) rfl rfl ?_
  refine jUse 416 [.ref 0, .int (xs 1), .int (xs 2), .int (xs 3)] [] [(0, .ref 0), (1, .int (xs 1)), (2, .int (xs 2)), (3, .int (xs 3))] i0_413 rfl (xlk0 l0_45) (Or.inl rfl) m113 rfl rfl (Nat.le_of_ble_eq_true rfl) (Nat.le_of_ble_eq_true rfl) (Nat.le_of_ble_eq_true rfl) rfl rfl rfl (q_taken mC _ _ _) ?_
  rintro ⟨v, h', a, b⟩ ⟨e1, ⟨f, e2⟩, e3⟩
  cases e1
  cases e2
  refine ⟨e3, ?_⟩
  show xT xg (6, xs) _ 0 416 [(3, .int 0), (2, .ref 77), (1, .ref 0), (0, .retAddr 0)] [.int _] _ _
  refine wLan 417 i0_416 rfl rfl ?_
  refine wLsn 418 i0_417 rfl rfl ?_
  refine wLin 419 i0_418 rfl rfl ?_
  refine wK 420 1 i0_419 (by decide) rfl ?_
  refine wA 421 i0_420 rfl rfl rfl ?_
  refine tTop (v := 1) (by decide) ?_
  refine wSal6 422 1 i0_421 (by decide) rfl rfl ?_
  refine wLsn 423 i0_422 rfl rfl ?_
  refine wLin 424 i0_423 rfl rfl ?_
  refine wK 425 2 i0_424 (by decide) rfl ?_
  refine wA 426 i0_425 rfl rfl rfl ?_
  refine tTop (v := 2) (by decide) ?_
  refine wSal6 427 2 i0_426 (by decide) rfl rfl ?_
  refine wLsn 428 i0_427 rfl rfl ?_
  refine wLin 429 i0_428 rfl rfl ?_
  refine wK 430 3 i0_429 (by decide) rfl ?_
  refine wA 431 i0_430 rfl rfl rfl ?_
  refine tTop (v := 3) (by decide) ?_
  refine wSal6 432 3 i0_431 (by decide) rfl rfl ?_
  refine tHeap (h' := hM f) rfl ?_
  refine jUse 435 [.ref 77, .int (xs 1), .int (xs 2), .int (xs 3)] [.int _] [(0, .ref 77), (1, .int (xs 1)), (2, .int (xs 2)), (3, .int (xs 3))] i0_432 rfl (xlk0 l0_48) (Or.inl rfl) m186 rfl rfl (Nat.le_of_ble_eq_true rfl) (Nat.le_of_ble_eq_true rfl) (Nat.le_of_ble_eq_true rfl) rfl rfl rfl (r_taken f _ _ _) ?_
  rintro ⟨v, h', a, b⟩ ⟨e1, e3⟩
  cases e1
  refine ⟨e3, ?_⟩
  show xT xg (6, xs) _ 0 435 [(3, .int 0), (2, .ref 77), (1, .ref 0), (0, .retAddr 0)] [.int _, .int _] _ _
  refine wCT 1226 i0_435 rfl (x_ceq _) ?_
  exact law_end _ hQ
set_option maxHeartbeats 4000000 in
set_option maxRecDepth 100000 in
theorem law_c8 {d : Nat} {xs : Nat → Int32} {Q : xR → Prop} (hQ : ∀ h, Q (some (.int 1), h, 0, 0)) : xT xg (6, xs) (d + 13) 0 440 [(3, .int 0), (2, .ref 77), (1, .ref 0), (0, .retAddr 0)] [] (hC mC) Q := by
  refine wLan 441 i0_440 rfl rfl ?_
  refine wLsn 442 i0_441 rfl rfl ?_
  refine wLin 443 i0_442 rfl rfl ?_
  refine wK 444 1 i0_443 (by decide) rfl ?_
  refine wA 445 i0_444 rfl rfl rfl ?_
  refine tTop (v := 1) (by decide) ?_
  refine wSal6 446 1 i0_445 (by decide) rfl rfl ?_
  refine wLsn 447 i0_446 rfl rfl ?_
  refine wLin 448 i0_447 rfl rfl ?_
  refine wK 449 2 i0_448 (by decide) rfl ?_
  refine wA 450 i0_449 rfl rfl rfl ?_
  refine tTop (v := 2) (by decide) ?_
  refine wSal6 451 2 i0_450 (by decide) rfl rfl ?_
  refine jUse 454 [.ref 0, .int (xs 1), .int (xs 2)] [] [(0, .ref 0), (1, .int (xs 1)), (2, .int (xs 2))] i0_451 rfl (xlk0 l0_49) (Or.inl rfl) m106 rfl rfl (Nat.le_of_ble_eq_true rfl) (Nat.le_of_ble_eq_true rfl) (Nat.le_of_ble_eq_true rfl) rfl rfl rfl (q_print mC _ _) ?_
  rintro ⟨v, h', a, b⟩ ⟨e1, ⟨f, e2⟩, e3⟩
  cases e1
  cases e2
  refine ⟨e3, ?_⟩
  show xT xg (6, xs) _ 0 454 [(3, .int 0), (2, .ref 77), (1, .ref 0), (0, .retAddr 0)] [.int _] _ _
  refine wLan 455 i0_454 rfl rfl ?_
  refine wLsn 456 i0_455 rfl rfl ?_
  refine wLin 457 i0_456 rfl rfl ?_
  refine wK 458 1 i0_457 (by decide) rfl ?_
  refine wA 459 i0_458 rfl rfl rfl ?_
  refine tTop (v := 1) (by decide) ?_
  refine wSal6 460 1 i0_459 (by decide) rfl rfl ?_
  refine wLsn 461 i0_460 rfl rfl ?_
  refine wLin 462 i0_461 rfl rfl ?_
  refine wK 463 2 i0_462 (by decide) rfl ?_
  refine wA 464 i0_463 rfl rfl rfl ?_
  refine tTop (v := 2) (by decide) ?_
  refine wSal6 465 2 i0_464 (by decide) rfl rfl ?_
  refine tHeap (h' := hM f) rfl ?_
  refine jUse 468 [.ref 77, .int (xs 1), .int (xs 2)] [.int _] [(0, .ref 77), (1, .int (xs 1)), (2, .int (xs 2))] i0_465 rfl (xlk0 l0_53) (Or.inl rfl) m177 rfl rfl (Nat.le_of_ble_eq_true rfl) (Nat.le_of_ble_eq_true rfl) (Nat.le_of_ble_eq_true rfl) rfl rfl rfl (r_print f _ _) ?_
  rintro ⟨v, h', a, b⟩ ⟨e1, e3⟩
  cases e1
  refine ⟨e3, ?_⟩
  show xT xg (6, xs) _ 0 468 [(3, .int 0), (2, .ref 77), (1, .ref 0), (0, .retAddr 0)] [.int _, .int _] _ _
  refine wCT 1226 i0_468 rfl (x_ceq _) ?_
  exact law_end _ hQ
set_option maxHeartbeats 4000000 in
set_option maxRecDepth 100000 in
theorem law_c9 {d : Nat} {xs : Nat → Int32} {Q : xR → Prop} (hQ : ∀ h, Q (some (.int 1), h, 0, 0)) : xT xg (6, xs) (d + 13) 0 473 [(3, .int 0), (2, .ref 77), (1, .ref 0), (0, .retAddr 0)] [] (hC mC) Q := by
  refine wLan 474 i0_473 rfl rfl ?_
  refine wLsn 475 i0_474 rfl rfl ?_
  refine wLin 476 i0_475 rfl rfl ?_
  refine wK 477 1 i0_476 (by decide) rfl ?_
  refine wA 478 i0_477 rfl rfl rfl ?_
  refine tTop (v := 1) (by decide) ?_
  refine wSal6 479 1 i0_478 (by decide) rfl rfl ?_
  refine wLsn 480 i0_479 rfl rfl ?_
  refine wLin 481 i0_480 rfl rfl ?_
  refine wK 482 2 i0_481 (by decide) rfl ?_
  refine wA 483 i0_482 rfl rfl rfl ?_
  refine tTop (v := 2) (by decide) ?_
  refine wSal6 484 2 i0_483 (by decide) rfl rfl ?_
  refine jUse 487 [.ref 0, .int (xs 1), .int (xs 2)] [] [(0, .ref 0), (1, .int (xs 1)), (2, .int (xs 2))] i0_484 rfl (xlk0 l0_54) (Or.inl rfl) m118 rfl rfl (Nat.le_of_ble_eq_true rfl) (Nat.le_of_ble_eq_true rfl) (Nat.le_of_ble_eq_true rfl) rfl rfl rfl (q_there mC _ _) ?_
  rintro ⟨v, h', a, b⟩ ⟨e1, ⟨f, e2⟩, e3⟩
  cases e1
  cases e2
  refine ⟨e3, ?_⟩
  show xT xg (6, xs) _ 0 487 [(3, .int 0), (2, .ref 77), (1, .ref 0), (0, .retAddr 0)] [.int _] _ _
  refine wLan 488 i0_487 rfl rfl ?_
  refine wLsn 489 i0_488 rfl rfl ?_
  refine wLin 490 i0_489 rfl rfl ?_
  refine wK 491 1 i0_490 (by decide) rfl ?_
  refine wA 492 i0_491 rfl rfl rfl ?_
  refine tTop (v := 1) (by decide) ?_
  refine wSal6 493 1 i0_492 (by decide) rfl rfl ?_
  refine wLsn 494 i0_493 rfl rfl ?_
  refine wLin 495 i0_494 rfl rfl ?_
  refine wK 496 2 i0_495 (by decide) rfl ?_
  refine wA 497 i0_496 rfl rfl rfl ?_
  refine tTop (v := 2) (by decide) ?_
  refine wSal6 498 2 i0_497 (by decide) rfl rfl ?_
  refine tHeap (h' := hM f) rfl ?_
  refine jUse 501 [.ref 77, .int (xs 1), .int (xs 2)] [.int _] [(0, .ref 77), (1, .int (xs 1)), (2, .int (xs 2))] i0_498 rfl (xlk0 l0_57) (Or.inl rfl) m191 rfl rfl (Nat.le_of_ble_eq_true rfl) (Nat.le_of_ble_eq_true rfl) (Nat.le_of_ble_eq_true rfl) rfl rfl rfl (r_there f _ _) ?_
  rintro ⟨v, h', a, b⟩ ⟨e1, e3⟩
  cases e1
  refine ⟨e3, ?_⟩
  show xT xg (6, xs) _ 0 501 [(3, .int 0), (2, .ref 77), (1, .ref 0), (0, .retAddr 0)] [.int _, .int _] _ _
  refine wCT 1226 i0_501 rfl (x_ceq _) ?_
  exact law_end _ hQ
set_option maxHeartbeats 4000000 in
set_option maxRecDepth 100000 in
theorem law_c10 {d : Nat} {xs : Nat → Int32} {Q : xR → Prop} (hQ : ∀ h, Q (some (.int 1), h, 0, 0)) : xT xg (6, xs) (d + 13) 0 506 [(3, .int 0), (2, .ref 77), (1, .ref 0), (0, .retAddr 0)] [] (hC mC) Q := by
  refine wLan 507 i0_506 rfl rfl ?_
  refine wLsn 508 i0_507 rfl rfl ?_
  refine wLin 509 i0_508 rfl rfl ?_
  refine wK 510 1 i0_509 (by decide) rfl ?_
  refine wA 511 i0_510 rfl rfl rfl ?_
  refine tTop (v := 1) (by decide) ?_
  refine wSal6 512 1 i0_511 (by decide) rfl rfl ?_
  refine wLsn 513 i0_512 rfl rfl ?_
  refine wLin 514 i0_513 rfl rfl ?_
  refine wK 515 2 i0_514 (by decide) rfl ?_
  refine wA 516 i0_515 rfl rfl rfl ?_
  refine tTop (v := 2) (by decide) ?_
  refine wSal6 517 2 i0_516 (by decide) rfl rfl ?_
  refine jUse 520 [.ref 0, .int (xs 1), .int (xs 2)] [] [(0, .ref 0), (1, .int (xs 1)), (2, .int (xs 2))] i0_517 rfl (xlk0 l0_58) (Or.inl rfl) m94 rfl rfl (Nat.le_of_ble_eq_true rfl) (Nat.le_of_ble_eq_true rfl) (Nat.le_of_ble_eq_true rfl) rfl rfl rfl (q_is mC _ _) ?_
  rintro ⟨v, h', a, b⟩ ⟨e1, ⟨f, e2⟩, e3⟩
  cases e1
  cases e2
  refine ⟨e3, ?_⟩
  show xT xg (6, xs) _ 0 520 [(3, .int 0), (2, .ref 77), (1, .ref 0), (0, .retAddr 0)] [.int _] _ _
  refine wLan 521 i0_520 rfl rfl ?_
  refine wLsn 522 i0_521 rfl rfl ?_
  refine wLin 523 i0_522 rfl rfl ?_
  refine wK 524 1 i0_523 (by decide) rfl ?_
  refine wA 525 i0_524 rfl rfl rfl ?_
  refine tTop (v := 1) (by decide) ?_
  refine wSal6 526 1 i0_525 (by decide) rfl rfl ?_
  refine wLsn 527 i0_526 rfl rfl ?_
  refine wLin 528 i0_527 rfl rfl ?_
  refine wK 529 2 i0_528 (by decide) rfl ?_
  refine wA 530 i0_529 rfl rfl rfl ?_
  refine tTop (v := 2) (by decide) ?_
  refine wSal6 531 2 i0_530 (by decide) rfl rfl ?_
  refine tHeap (h' := hM f) rfl ?_
  refine jUse 534 [.ref 77, .int (xs 1), .int (xs 2)] [.int _] [(0, .ref 77), (1, .int (xs 1)), (2, .int (xs 2))] i0_531 rfl (xlk0 l0_61) (Or.inl rfl) m144 rfl rfl (Nat.le_of_ble_eq_true rfl) (Nat.le_of_ble_eq_true rfl) (Nat.le_of_ble_eq_true rfl) rfl rfl rfl (r_is f _ _) ?_
  rintro ⟨v, h', a, b⟩ ⟨e1, e3⟩
  cases e1
  refine ⟨e3, ?_⟩
  show xT xg (6, xs) _ 0 534 [(3, .int 0), (2, .ref 77), (1, .ref 0), (0, .retAddr 0)] [.int _, .int _] _ _
  refine wCT 1226 i0_534 rfl (x_ceq _) ?_
  exact law_end _ hQ
set_option maxHeartbeats 4000000 in
set_option maxRecDepth 100000 in
theorem law_c11 {d : Nat} {xs : Nat → Int32} {Q : xR → Prop} (hQ : ∀ h, Q (some (.int 1), h, 0, 0)) : xT xg (6, xs) (d + 13) 0 539 [(3, .int 0), (2, .ref 77), (1, .ref 0), (0, .retAddr 0)] [] (hC mC) Q := by
  refine wLan 540 i0_539 rfl rfl ?_
  refine wLsn 541 i0_540 rfl rfl ?_
  refine wLin 542 i0_541 rfl rfl ?_
  refine wK 543 1 i0_542 (by decide) rfl ?_
  refine wA 544 i0_543 rfl rfl rfl ?_
  refine tTop (v := 1) (by decide) ?_
  refine wSal6 545 1 i0_544 (by decide) rfl rfl ?_
  refine wLsn 546 i0_545 rfl rfl ?_
  refine wLin 547 i0_546 rfl rfl ?_
  refine wK 548 2 i0_547 (by decide) rfl ?_
  refine wA 549 i0_548 rfl rfl rfl ?_
  refine tTop (v := 2) (by decide) ?_
  refine wSal6 550 2 i0_549 (by decide) rfl rfl ?_
  refine jUse 553 [.ref 0, .int (xs 1), .int (xs 2)] [] [(0, .ref 0), (1, .int (xs 1)), (2, .int (xs 2))] i0_550 rfl (xlk0 l0_62) (Or.inl rfl) m91 rfl rfl (Nat.le_of_ble_eq_true rfl) (Nat.le_of_ble_eq_true rfl) (Nat.le_of_ble_eq_true rfl) rfl rfl rfl (q_head mC _ _) ?_
  rintro ⟨v, h', a, b⟩ ⟨e1, ⟨f, e2⟩, e3⟩
  cases e1
  cases e2
  refine ⟨e3, ?_⟩
  show xT xg (6, xs) _ 0 553 [(3, .int 0), (2, .ref 77), (1, .ref 0), (0, .retAddr 0)] [.long _] _ _
  refine wLan 554 i0_553 rfl rfl ?_
  refine wLsn 555 i0_554 rfl rfl ?_
  refine wLin 556 i0_555 rfl rfl ?_
  refine wK 557 1 i0_556 (by decide) rfl ?_
  refine wA 558 i0_557 rfl rfl rfl ?_
  refine tTop (v := 1) (by decide) ?_
  refine wSal6 559 1 i0_558 (by decide) rfl rfl ?_
  refine wLsn 560 i0_559 rfl rfl ?_
  refine wLin 561 i0_560 rfl rfl ?_
  refine wK 562 2 i0_561 (by decide) rfl ?_
  refine wA 563 i0_562 rfl rfl rfl ?_
  refine tTop (v := 2) (by decide) ?_
  refine wSal6 564 2 i0_563 (by decide) rfl rfl ?_
  refine tHeap (h' := hM f) rfl ?_
  refine jUse 567 [.ref 77, .int (xs 1), .int (xs 2)] [.long _] [(0, .ref 77), (1, .int (xs 1)), (2, .int (xs 2))] i0_564 rfl (xlk0 l0_65) (Or.inl rfl) m139 rfl rfl (Nat.le_of_ble_eq_true rfl) (Nat.le_of_ble_eq_true rfl) (Nat.le_of_ble_eq_true rfl) rfl rfl rfl (r_head f _ _) ?_
  rintro ⟨v, h', a, b⟩ ⟨e1, e3⟩
  cases e1
  refine ⟨e3, ?_⟩
  show xT xg (6, xs) _ 0 567 [(3, .int 0), (2, .ref 77), (1, .ref 0), (0, .retAddr 0)] [.long _, .long _] _ _
  refine wA 568 i0_567 rfl rfl rfl ?_
  refine tTop (v := 0) (x_cmps _) ?_
  refine wZT 1226 i0_568 rfl (by decide) ?_
  exact law_end _ hQ
set_option maxHeartbeats 4000000 in
set_option maxRecDepth 100000 in
theorem law_c12 {d : Nat} {xs : Nat → Int32} {Q : xR → Prop} (hQ : ∀ h, Q (some (.int 1), h, 0, 0)) : xT xg (6, xs) (d + 13) 0 573 [(3, .int 0), (2, .ref 77), (1, .ref 0), (0, .retAddr 0)] [] (hC mC) Q := by
  refine wLan 574 i0_573 rfl rfl ?_
  refine wLsn 575 i0_574 rfl rfl ?_
  refine wLin 576 i0_575 rfl rfl ?_
  refine wK 577 1 i0_576 (by decide) rfl ?_
  refine wA 578 i0_577 rfl rfl rfl ?_
  refine tTop (v := 1) (by decide) ?_
  refine wSal6 579 1 i0_578 (by decide) rfl rfl ?_
  refine wLsn 580 i0_579 rfl rfl ?_
  refine wLin 581 i0_580 rfl rfl ?_
  refine wK 582 2 i0_581 (by decide) rfl ?_
  refine wA 583 i0_582 rfl rfl rfl ?_
  refine tTop (v := 2) (by decide) ?_
  refine wSal6 584 2 i0_583 (by decide) rfl rfl ?_
  refine jUse 587 [.ref 0, .int (xs 1), .int (xs 2)] [] [(0, .ref 0), (1, .int (xs 1)), (2, .int (xs 2))] i0_584 rfl (xlk0 l0_66) (Or.inl rfl) m103 rfl rfl (Nat.le_of_ble_eq_true rfl) (Nat.le_of_ble_eq_true rfl) (Nat.le_of_ble_eq_true rfl) rfl rfl rfl (q_need mC _ _) ?_
  rintro ⟨v, h', a, b⟩ ⟨e1, ⟨f, e2⟩, e3⟩
  cases e1
  cases e2
  refine ⟨e3, ?_⟩
  show xT xg (6, xs) _ 0 587 [(3, .int 0), (2, .ref 77), (1, .ref 0), (0, .retAddr 0)] [.int _] _ _
  refine wLan 588 i0_587 rfl rfl ?_
  refine wLsn 589 i0_588 rfl rfl ?_
  refine wLin 590 i0_589 rfl rfl ?_
  refine wK 591 1 i0_590 (by decide) rfl ?_
  refine wA 592 i0_591 rfl rfl rfl ?_
  refine tTop (v := 1) (by decide) ?_
  refine wSal6 593 1 i0_592 (by decide) rfl rfl ?_
  refine wLsn 594 i0_593 rfl rfl ?_
  refine wLin 595 i0_594 rfl rfl ?_
  refine wK 596 2 i0_595 (by decide) rfl ?_
  refine wA 597 i0_596 rfl rfl rfl ?_
  refine tTop (v := 2) (by decide) ?_
  refine wSal6 598 2 i0_597 (by decide) rfl rfl ?_
  refine tHeap (h' := hM f) rfl ?_
  refine jUse 601 [.ref 77, .int (xs 1), .int (xs 2)] [.int _] [(0, .ref 77), (1, .int (xs 1)), (2, .int (xs 2))] i0_598 rfl (xlk0 l0_69) (Or.inl rfl) m166 rfl rfl (Nat.le_of_ble_eq_true rfl) (Nat.le_of_ble_eq_true rfl) (Nat.le_of_ble_eq_true rfl) rfl rfl rfl (r_need f _ _) ?_
  rintro ⟨v, h', a, b⟩ ⟨e1, e3⟩
  cases e1
  refine ⟨e3, ?_⟩
  show xT xg (6, xs) _ 0 601 [(3, .int 0), (2, .ref 77), (1, .ref 0), (0, .retAddr 0)] [.int _, .int _] _ _
  refine wCT 1226 i0_601 rfl (x_ceq _) ?_
  exact law_end _ hQ
set_option maxHeartbeats 4000000 in
set_option maxRecDepth 100000 in
theorem law_c13 {d : Nat} {xs : Nat → Int32} {Q : xR → Prop} (hQ : ∀ h, Q (some (.int 1), h, 0, 0)) : xT xg (6, xs) (d + 13) 0 606 [(3, .int 0), (2, .ref 77), (1, .ref 0), (0, .retAddr 0)] [] (hC mC) Q := by
  refine wLan 607 i0_606 rfl rfl ?_
  refine wLsn 608 i0_607 rfl rfl ?_
  refine wLin 609 i0_608 rfl rfl ?_
  refine wK 610 1 i0_609 (by decide) rfl ?_
  refine wA 611 i0_610 rfl rfl rfl ?_
  refine tTop (v := 1) (by decide) ?_
  refine wSal6 612 1 i0_611 (by decide) rfl rfl ?_
  refine jUse 615 [.ref 0, .int (xs 1)] [] [(0, .ref 0), (1, .int (xs 1))] i0_612 rfl (xlk0 l0_70) (Or.inl rfl) m102 rfl rfl (Nat.le_of_ble_eq_true rfl) (Nat.le_of_ble_eq_true rfl) (Nat.le_of_ble_eq_true rfl) rfl rfl rfl (q_limit mC _) ?_
  rintro ⟨v, h', a, b⟩ ⟨e1, ⟨f, e2⟩, e3⟩
  cases e1
  cases e2
  refine ⟨e3, ?_⟩
  show xT xg (6, xs) _ 0 615 [(3, .int 0), (2, .ref 77), (1, .ref 0), (0, .retAddr 0)] [.int _] _ _
  refine wLan 616 i0_615 rfl rfl ?_
  refine wLsn 617 i0_616 rfl rfl ?_
  refine wLin 618 i0_617 rfl rfl ?_
  refine wK 619 1 i0_618 (by decide) rfl ?_
  refine wA 620 i0_619 rfl rfl rfl ?_
  refine tTop (v := 1) (by decide) ?_
  refine wSal6 621 1 i0_620 (by decide) rfl rfl ?_
  refine tHeap (h' := hM f) rfl ?_
  refine jUse 624 [.ref 77, .int (xs 1)] [.int _] [(0, .ref 77), (1, .int (xs 1))] i0_621 rfl (xlk0 l0_73) (Or.inl rfl) m163 rfl rfl (Nat.le_of_ble_eq_true rfl) (Nat.le_of_ble_eq_true rfl) (Nat.le_of_ble_eq_true rfl) rfl rfl rfl (r_limit f _) ?_
  rintro ⟨v, h', a, b⟩ ⟨e1, e3⟩
  cases e1
  refine ⟨e3, ?_⟩
  show xT xg (6, xs) _ 0 624 [(3, .int 0), (2, .ref 77), (1, .ref 0), (0, .retAddr 0)] [.int _, .int _] _ _
  refine wCT 1226 i0_624 rfl (x_ceq _) ?_
  exact law_end _ hQ
set_option maxHeartbeats 4000000 in
set_option maxRecDepth 100000 in
theorem law_c14 {d : Nat} {xs : Nat → Int32} {Q : xR → Prop} (hQ : ∀ h, Q (some (.int 1), h, 0, 0)) : xT xg (6, xs) (d + 13) 0 629 [(3, .int 0), (2, .ref 77), (1, .ref 0), (0, .retAddr 0)] [] (hC mC) Q := by
  refine wLan 630 i0_629 rfl rfl ?_
  refine jUse 633 [.ref 0] [] [(0, .ref 0)] i0_630 rfl (xlk0 l0_74) (Or.inl rfl) m89 rfl rfl (Nat.le_of_ble_eq_true rfl) (Nat.le_of_ble_eq_true rfl) (Nat.le_of_ble_eq_true rfl) rfl rfl rfl (q_forget mC ) ?_
  rintro ⟨v, h', a, b⟩ ⟨e1, ⟨f, e2⟩, e3⟩
  cases e1
  cases e2
  refine ⟨e3, ?_⟩
  show xT xg (6, xs) _ 0 633 [(3, .int 0), (2, .ref 77), (1, .ref 0), (0, .retAddr 0)] [.int _] _ _
  refine wLan 634 i0_633 rfl rfl ?_
  refine tHeap (h' := hM f) rfl ?_
  refine jUse 637 [.ref 77] [.int _] [(0, .ref 77)] i0_634 rfl (xlk0 l0_78) (Or.inl rfl) m135 rfl rfl (Nat.le_of_ble_eq_true rfl) (Nat.le_of_ble_eq_true rfl) (Nat.le_of_ble_eq_true rfl) rfl rfl rfl (r_forget f ) ?_
  rintro ⟨v, h', a, b⟩ ⟨e1, e3⟩
  cases e1
  refine ⟨e3, ?_⟩
  show xT xg (6, xs) _ 0 637 [(3, .int 0), (2, .ref 77), (1, .ref 0), (0, .retAddr 0)] [.int _, .int _] _ _
  refine wCT 1226 i0_637 rfl (x_ceq _) ?_
  exact law_end _ hQ
set_option maxHeartbeats 4000000 in
set_option maxRecDepth 100000 in
theorem law_c15 {d : Nat} {xs : Nat → Int32} {Q : xR → Prop} (hQ : ∀ h, Q (some (.int 1), h, 0, 0)) : xT xg (6, xs) (d + 13) 0 642 [(3, .int 0), (2, .ref 77), (1, .ref 0), (0, .retAddr 0)] [] (hC mC) Q := by
  refine wLan 643 i0_642 rfl rfl ?_
  refine wLsn 644 i0_643 rfl rfl ?_
  refine wLin 645 i0_644 rfl rfl ?_
  refine wK 646 1 i0_645 (by decide) rfl ?_
  refine wA 647 i0_646 rfl rfl rfl ?_
  refine tTop (v := 1) (by decide) ?_
  refine wSal6 648 1 i0_647 (by decide) rfl rfl ?_
  refine wLsn 649 i0_648 rfl rfl ?_
  refine wLin 650 i0_649 rfl rfl ?_
  refine wK 651 2 i0_650 (by decide) rfl ?_
  refine wA 652 i0_651 rfl rfl rfl ?_
  refine tTop (v := 2) (by decide) ?_
  refine wSal6 653 2 i0_652 (by decide) rfl rfl ?_
  refine jUse 656 [.ref 0, .int (xs 1), .int (xs 2)] [] [(0, .ref 0), (1, .int (xs 1)), (2, .int (xs 2))] i0_653 rfl (xlk0 l0_79) (Or.inl rfl) m112 rfl rfl (Nat.le_of_ble_eq_true rfl) (Nat.le_of_ble_eq_true rfl) (Nat.le_of_ble_eq_true rfl) rfl rfl rfl (q_sum mC _ _) ?_
  rintro ⟨v, h', a, b⟩ ⟨e1, ⟨f, e2⟩, e3⟩
  cases e1
  cases e2
  refine ⟨e3, ?_⟩
  show xT xg (6, xs) _ 0 656 [(3, .int 0), (2, .ref 77), (1, .ref 0), (0, .retAddr 0)] [.long _] _ _
  refine wLan 657 i0_656 rfl rfl ?_
  refine wLsn 658 i0_657 rfl rfl ?_
  refine wLin 659 i0_658 rfl rfl ?_
  refine wK 660 1 i0_659 (by decide) rfl ?_
  refine wA 661 i0_660 rfl rfl rfl ?_
  refine tTop (v := 1) (by decide) ?_
  refine wSal6 662 1 i0_661 (by decide) rfl rfl ?_
  refine wLsn 663 i0_662 rfl rfl ?_
  refine wLin 664 i0_663 rfl rfl ?_
  refine wK 665 2 i0_664 (by decide) rfl ?_
  refine wA 666 i0_665 rfl rfl rfl ?_
  refine tTop (v := 2) (by decide) ?_
  refine wSal6 667 2 i0_666 (by decide) rfl rfl ?_
  refine tHeap (h' := hM f) rfl ?_
  refine jUse 670 [.ref 77, .int (xs 1), .int (xs 2)] [.long _] [(0, .ref 77), (1, .int (xs 1)), (2, .int (xs 2))] i0_667 rfl (xlk0 l0_82) (Or.inl rfl) m185 rfl rfl (Nat.le_of_ble_eq_true rfl) (Nat.le_of_ble_eq_true rfl) (Nat.le_of_ble_eq_true rfl) rfl rfl rfl (r_sum f _ _) ?_
  rintro ⟨v, h', a, b⟩ ⟨e1, e3⟩
  cases e1
  refine ⟨e3, ?_⟩
  show xT xg (6, xs) _ 0 670 [(3, .int 0), (2, .ref 77), (1, .ref 0), (0, .retAddr 0)] [.long _, .long _] _ _
  refine wA 671 i0_670 rfl rfl rfl ?_
  refine tTop (v := 0) (x_cmps _) ?_
  refine wZT 1226 i0_671 rfl (by decide) ?_
  exact law_end _ hQ
set_option maxHeartbeats 4000000 in
set_option maxRecDepth 100000 in
theorem law_c16 {d : Nat} {xs : Nat → Int32} {Q : xR → Prop} (hQ : ∀ h, Q (some (.int 1), h, 0, 0)) : xT xg (6, xs) (d + 13) 0 676 [(3, .int 0), (2, .ref 77), (1, .ref 0), (0, .retAddr 0)] [] (hC mC) Q := by
  refine wLan 677 i0_676 rfl rfl ?_
  refine wLsn 678 i0_677 rfl rfl ?_
  refine wLin 679 i0_678 rfl rfl ?_
  refine wK 680 1 i0_679 (by decide) rfl ?_
  refine wA 681 i0_680 rfl rfl rfl ?_
  refine tTop (v := 1) (by decide) ?_
  refine wSal6 682 1 i0_681 (by decide) rfl rfl ?_
  refine wLsn 683 i0_682 rfl rfl ?_
  refine wLin 684 i0_683 rfl rfl ?_
  refine wK 685 2 i0_684 (by decide) rfl ?_
  refine wA 686 i0_685 rfl rfl rfl ?_
  refine tTop (v := 2) (by decide) ?_
  refine wSal6 687 2 i0_686 (by decide) rfl rfl ?_
  refine wA 688 i0_687 rfl rfl rfl ?_
  refine wKb 690 32 i0_688 (by decide) rfl ?_
  refine wA 691 i0_690 rfl rfl rfl ?_
  refine wLsn 692 i0_691 rfl rfl ?_
  refine wLin 693 i0_692 rfl rfl ?_
  refine wK 694 3 i0_693 (by decide) rfl ?_
  refine wA 695 i0_694 rfl rfl rfl ?_
  refine tTop (v := 3) (by decide) ?_
  refine wSal6 696 3 i0_695 (by decide) rfl rfl ?_
  refine wA 697 i0_696 rfl rfl rfl ?_
  refine wKd 700 4294967295 i0_697 c0_83 rfl ?_
  refine wA 701 i0_700 rfl rfl rfl ?_
  refine wA 702 i0_701 rfl rfl rfl ?_
  refine wLsn 703 i0_702 rfl rfl ?_
  refine wLin 704 i0_703 rfl rfl ?_
  refine wK 705 4 i0_704 (by decide) rfl ?_
  refine wA 706 i0_705 rfl rfl rfl ?_
  refine tTop (v := 4) (by decide) ?_
  refine wSal6 707 4 i0_706 (by decide) rfl rfl ?_
  refine jUse 710 [.ref 0, .int (xs 1), .long _, .int (xs 4)] [] [(0, .ref 0), (1, .int (xs 1)), (2, .long _), (4, .int (xs 4))] i0_707 rfl (xlk0 l0_85) (Or.inl rfl) m88 rfl rfl (Nat.le_of_ble_eq_true rfl) (Nat.le_of_ble_eq_true rfl) (Nat.le_of_ble_eq_true rfl) rfl rfl rfl (q_find mC _ _ _) ?_
  rintro ⟨v, h', a, b⟩ ⟨e1, ⟨f, e2⟩, e3⟩
  cases e1
  cases e2
  refine ⟨e3, ?_⟩
  show xT xg (6, xs) _ 0 710 [(3, .int 0), (2, .ref 77), (1, .ref 0), (0, .retAddr 0)] [.int _] _ _
  refine wLan 711 i0_710 rfl rfl ?_
  refine wLsn 712 i0_711 rfl rfl ?_
  refine wLin 713 i0_712 rfl rfl ?_
  refine wK 714 1 i0_713 (by decide) rfl ?_
  refine wA 715 i0_714 rfl rfl rfl ?_
  refine tTop (v := 1) (by decide) ?_
  refine wSal6 716 1 i0_715 (by decide) rfl rfl ?_
  refine wLsn 717 i0_716 rfl rfl ?_
  refine wLin 718 i0_717 rfl rfl ?_
  refine wK 719 2 i0_718 (by decide) rfl ?_
  refine wA 720 i0_719 rfl rfl rfl ?_
  refine tTop (v := 2) (by decide) ?_
  refine wSal6 721 2 i0_720 (by decide) rfl rfl ?_
  refine wA 722 i0_721 rfl rfl rfl ?_
  refine wKb 724 32 i0_722 (by decide) rfl ?_
  refine wA 725 i0_724 rfl rfl rfl ?_
  refine wLsn 726 i0_725 rfl rfl ?_
  refine wLin 727 i0_726 rfl rfl ?_
  refine wK 728 3 i0_727 (by decide) rfl ?_
  refine wA 729 i0_728 rfl rfl rfl ?_
  refine tTop (v := 3) (by decide) ?_
  refine wSal6 730 3 i0_729 (by decide) rfl rfl ?_
  refine wA 731 i0_730 rfl rfl rfl ?_
  refine wKd 734 4294967295 i0_731 c0_83 rfl ?_
  refine wA 735 i0_734 rfl rfl rfl ?_
  refine wA 736 i0_735 rfl rfl rfl ?_
  refine wLsn 737 i0_736 rfl rfl ?_
  refine wLin 738 i0_737 rfl rfl ?_
  refine wK 739 4 i0_738 (by decide) rfl ?_
  refine wA 740 i0_739 rfl rfl rfl ?_
  refine tTop (v := 4) (by decide) ?_
  refine wSal6 741 4 i0_740 (by decide) rfl rfl ?_
  refine tHeap (h' := hM f) rfl ?_
  refine jUse 744 [.ref 77, .int (xs 1), .long _, .int (xs 4)] [.int _] [(0, .ref 77), (1, .int (xs 1)), (2, .long _), (4, .int (xs 4))] i0_741 rfl (xlk0 l0_89) (Or.inl rfl) m133 rfl rfl (Nat.le_of_ble_eq_true rfl) (Nat.le_of_ble_eq_true rfl) (Nat.le_of_ble_eq_true rfl) rfl rfl rfl (r_find f _ _ _) ?_
  rintro ⟨v, h', a, b⟩ ⟨e1, e3⟩
  cases e1
  refine ⟨e3, ?_⟩
  show xT xg (6, xs) _ 0 744 [(3, .int 0), (2, .ref 77), (1, .ref 0), (0, .retAddr 0)] [.int _, .int _] _ _
  refine wCT 1226 i0_744 rfl (x_ceq _) ?_
  exact law_end _ hQ
set_option maxHeartbeats 4000000 in
set_option maxRecDepth 100000 in
theorem law_c17 {d : Nat} {xs : Nat → Int32} {Q : xR → Prop} (hQ : ∀ h, Q (some (.int 1), h, 0, 0)) : xT xg (6, xs) (d + 13) 0 749 [(3, .int 0), (2, .ref 77), (1, .ref 0), (0, .retAddr 0)] [] (hC mC) Q := by
  refine wLan 750 i0_749 rfl rfl ?_
  refine wLsn 751 i0_750 rfl rfl ?_
  refine wLin 752 i0_751 rfl rfl ?_
  refine wK 753 1 i0_752 (by decide) rfl ?_
  refine wA 754 i0_753 rfl rfl rfl ?_
  refine tTop (v := 1) (by decide) ?_
  refine wSal6 755 1 i0_754 (by decide) rfl rfl ?_
  refine wLsn 756 i0_755 rfl rfl ?_
  refine wLin 757 i0_756 rfl rfl ?_
  refine wK 758 2 i0_757 (by decide) rfl ?_
  refine wA 759 i0_758 rfl rfl rfl ?_
  refine tTop (v := 2) (by decide) ?_
  refine wSal6 760 2 i0_759 (by decide) rfl rfl ?_
  refine wLsn 761 i0_760 rfl rfl ?_
  refine wLin 762 i0_761 rfl rfl ?_
  refine wK 763 3 i0_762 (by decide) rfl ?_
  refine wA 764 i0_763 rfl rfl rfl ?_
  refine tTop (v := 3) (by decide) ?_
  refine wSal6 765 3 i0_764 (by decide) rfl rfl ?_
  refine jUse 768 [.ref 0, .int (xs 1), .int (xs 2), .int (xs 3)] [] [(0, .ref 0), (1, .int (xs 1)), (2, .int (xs 2)), (3, .int (xs 3))] i0_765 rfl (xlk0 l0_90) (Or.inl rfl) m83 rfl rfl (Nat.le_of_ble_eq_true rfl) (Nat.le_of_ble_eq_true rfl) (Nat.le_of_ble_eq_true rfl) rfl rfl rfl (q_differ mC _ _ _) ?_
  rintro ⟨v, h', a, b⟩ ⟨e1, ⟨f, e2⟩, e3⟩
  cases e1
  cases e2
  refine ⟨e3, ?_⟩
  show xT xg (6, xs) _ 0 768 [(3, .int 0), (2, .ref 77), (1, .ref 0), (0, .retAddr 0)] [.int _] _ _
  refine wLan 769 i0_768 rfl rfl ?_
  refine wLsn 770 i0_769 rfl rfl ?_
  refine wLin 771 i0_770 rfl rfl ?_
  refine wK 772 1 i0_771 (by decide) rfl ?_
  refine wA 773 i0_772 rfl rfl rfl ?_
  refine tTop (v := 1) (by decide) ?_
  refine wSal6 774 1 i0_773 (by decide) rfl rfl ?_
  refine wLsn 775 i0_774 rfl rfl ?_
  refine wLin 776 i0_775 rfl rfl ?_
  refine wK 777 2 i0_776 (by decide) rfl ?_
  refine wA 778 i0_777 rfl rfl rfl ?_
  refine tTop (v := 2) (by decide) ?_
  refine wSal6 779 2 i0_778 (by decide) rfl rfl ?_
  refine wLsn 780 i0_779 rfl rfl ?_
  refine wLin 781 i0_780 rfl rfl ?_
  refine wK 782 3 i0_781 (by decide) rfl ?_
  refine wA 783 i0_782 rfl rfl rfl ?_
  refine tTop (v := 3) (by decide) ?_
  refine wSal6 784 3 i0_783 (by decide) rfl rfl ?_
  refine tHeap (h' := hM f) rfl ?_
  refine jUse 787 [.ref 77, .int (xs 1), .int (xs 2), .int (xs 3)] [.int _] [(0, .ref 77), (1, .int (xs 1)), (2, .int (xs 2)), (3, .int (xs 3))] i0_784 rfl (xlk0 l0_93) (Or.inl rfl) m126 rfl rfl (Nat.le_of_ble_eq_true rfl) (Nat.le_of_ble_eq_true rfl) (Nat.le_of_ble_eq_true rfl) rfl rfl rfl (r_differ f _ _ _) ?_
  rintro ⟨v, h', a, b⟩ ⟨e1, e3⟩
  cases e1
  refine ⟨e3, ?_⟩
  show xT xg (6, xs) _ 0 787 [(3, .int 0), (2, .ref 77), (1, .ref 0), (0, .retAddr 0)] [.int _, .int _] _ _
  refine wCT 1226 i0_787 rfl (x_ceq _) ?_
  exact law_end _ hQ
set_option maxHeartbeats 4000000 in
set_option maxRecDepth 100000 in
theorem law_c18 {d : Nat} {xs : Nat → Int32} {Q : xR → Prop} (hQ : ∀ h, Q (some (.int 1), h, 0, 0)) : xT xg (6, xs) (d + 13) 0 792 [(3, .int 0), (2, .ref 77), (1, .ref 0), (0, .retAddr 0)] [] (hC mC) Q := by
  refine wLan 793 i0_792 rfl rfl ?_
  refine wLsn 794 i0_793 rfl rfl ?_
  refine wLin 795 i0_794 rfl rfl ?_
  refine wK 796 1 i0_795 (by decide) rfl ?_
  refine wA 797 i0_796 rfl rfl rfl ?_
  refine tTop (v := 1) (by decide) ?_
  refine wSal6 798 1 i0_797 (by decide) rfl rfl ?_
  refine jUse 801 [.ref 0, .int (xs 1)] [] [(0, .ref 0), (1, .int (xs 1))] i0_798 rfl (xlk0 l0_94) (Or.inl rfl) m110 rfl rfl (Nat.le_of_ble_eq_true rfl) (Nat.le_of_ble_eq_true rfl) (Nat.le_of_ble_eq_true rfl) rfl rfl rfl (q_rises mC _) ?_
  rintro ⟨v, h', a, b⟩ ⟨e1, ⟨f, e2⟩, e3⟩
  cases e1
  cases e2
  refine ⟨e3, ?_⟩
  show xT xg (6, xs) _ 0 801 [(3, .int 0), (2, .ref 77), (1, .ref 0), (0, .retAddr 0)] [.int _] _ _
  refine wLan 802 i0_801 rfl rfl ?_
  refine wLsn 803 i0_802 rfl rfl ?_
  refine wLin 804 i0_803 rfl rfl ?_
  refine wK 805 1 i0_804 (by decide) rfl ?_
  refine wA 806 i0_805 rfl rfl rfl ?_
  refine tTop (v := 1) (by decide) ?_
  refine wSal6 807 1 i0_806 (by decide) rfl rfl ?_
  refine tHeap (h' := hM f) rfl ?_
  refine jUse 810 [.ref 77, .int (xs 1)] [.int _] [(0, .ref 77), (1, .int (xs 1))] i0_807 rfl (xlk0 l0_97) (Or.inl rfl) m181 rfl rfl (Nat.le_of_ble_eq_true rfl) (Nat.le_of_ble_eq_true rfl) (Nat.le_of_ble_eq_true rfl) rfl rfl rfl (r_rises f _) ?_
  rintro ⟨v, h', a, b⟩ ⟨e1, e3⟩
  cases e1
  refine ⟨e3, ?_⟩
  show xT xg (6, xs) _ 0 810 [(3, .int 0), (2, .ref 77), (1, .ref 0), (0, .retAddr 0)] [.int _, .int _] _ _
  refine wCT 1226 i0_810 rfl (x_ceq _) ?_
  exact law_end _ hQ
set_option maxHeartbeats 4000000 in
set_option maxRecDepth 100000 in
theorem law_c19 {d : Nat} {xs : Nat → Int32} {Q : xR → Prop} (hQ : ∀ h, Q (some (.int 1), h, 0, 0)) : xT xg (6, xs) (d + 13) 0 815 [(3, .int 0), (2, .ref 77), (1, .ref 0), (0, .retAddr 0)] [] (hC mC) Q := by
  refine wLan 816 i0_815 rfl rfl ?_
  refine wLsn 817 i0_816 rfl rfl ?_
  refine wLin 818 i0_817 rfl rfl ?_
  refine wK 819 1 i0_818 (by decide) rfl ?_
  refine wA 820 i0_819 rfl rfl rfl ?_
  refine tTop (v := 1) (by decide) ?_
  refine wSal6 821 1 i0_820 (by decide) rfl rfl ?_
  refine wLsn 822 i0_821 rfl rfl ?_
  refine wLin 823 i0_822 rfl rfl ?_
  refine wK 824 2 i0_823 (by decide) rfl ?_
  refine wA 825 i0_824 rfl rfl rfl ?_
  refine tTop (v := 2) (by decide) ?_
  refine wSal6 826 2 i0_825 (by decide) rfl rfl ?_
  refine wLsn 827 i0_826 rfl rfl ?_
  refine wLin 828 i0_827 rfl rfl ?_
  refine wK 829 3 i0_828 (by decide) rfl ?_
  refine wA 830 i0_829 rfl rfl rfl ?_
  refine tTop (v := 3) (by decide) ?_
  refine wSal6 831 3 i0_830 (by decide) rfl rfl ?_
  refine jUse 834 [.ref 0, .int (xs 1), .int (xs 2), .int (xs 3)] [] [(0, .ref 0), (1, .int (xs 1)), (2, .int (xs 2)), (3, .int (xs 3))] i0_831 rfl (xlk0 l0_98) (Or.inl rfl) m87 rfl rfl (Nat.le_of_ble_eq_true rfl) (Nat.le_of_ble_eq_true rfl) (Nat.le_of_ble_eq_true rfl) rfl rfl rfl (q_film mC _ _ _) ?_
  rintro ⟨v, h', a, b⟩ ⟨e1, ⟨f, e2⟩, e3⟩
  cases e1
  cases e2
  refine ⟨e3, ?_⟩
  show xT xg (6, xs) _ 0 834 [(3, .int 0), (2, .ref 77), (1, .ref 0), (0, .retAddr 0)] [.int _] _ _
  refine wLan 835 i0_834 rfl rfl ?_
  refine wLsn 836 i0_835 rfl rfl ?_
  refine wLin 837 i0_836 rfl rfl ?_
  refine wK 838 1 i0_837 (by decide) rfl ?_
  refine wA 839 i0_838 rfl rfl rfl ?_
  refine tTop (v := 1) (by decide) ?_
  refine wSal6 840 1 i0_839 (by decide) rfl rfl ?_
  refine wLsn 841 i0_840 rfl rfl ?_
  refine wLin 842 i0_841 rfl rfl ?_
  refine wK 843 2 i0_842 (by decide) rfl ?_
  refine wA 844 i0_843 rfl rfl rfl ?_
  refine tTop (v := 2) (by decide) ?_
  refine wSal6 845 2 i0_844 (by decide) rfl rfl ?_
  refine wLsn 846 i0_845 rfl rfl ?_
  refine wLin 847 i0_846 rfl rfl ?_
  refine wK 848 3 i0_847 (by decide) rfl ?_
  refine wA 849 i0_848 rfl rfl rfl ?_
  refine tTop (v := 3) (by decide) ?_
  refine wSal6 850 3 i0_849 (by decide) rfl rfl ?_
  refine tHeap (h' := hM f) rfl ?_
  refine jUse 853 [.ref 77, .int (xs 1), .int (xs 2), .int (xs 3)] [.int _] [(0, .ref 77), (1, .int (xs 1)), (2, .int (xs 2)), (3, .int (xs 3))] i0_850 rfl (xlk0 l0_101) (Or.inl rfl) m132 rfl rfl (Nat.le_of_ble_eq_true rfl) (Nat.le_of_ble_eq_true rfl) (Nat.le_of_ble_eq_true rfl) rfl rfl rfl (r_film f _ _ _) ?_
  rintro ⟨v, h', a, b⟩ ⟨e1, e3⟩
  cases e1
  refine ⟨e3, ?_⟩
  show xT xg (6, xs) _ 0 853 [(3, .int 0), (2, .ref 77), (1, .ref 0), (0, .retAddr 0)] [.int _, .int _] _ _
  refine wCT 1226 i0_853 rfl (x_ceq _) ?_
  exact law_end _ hQ
set_option maxHeartbeats 4000000 in
set_option maxRecDepth 100000 in
theorem law_c20 {d : Nat} {xs : Nat → Int32} {Q : xR → Prop} (hQ : ∀ h, Q (some (.int 1), h, 0, 0)) : xT xg (6, xs) (d + 13) 0 858 [(3, .int 0), (2, .ref 77), (1, .ref 0), (0, .retAddr 0)] [] (hC mC) Q := by
  refine wLan 859 i0_858 rfl rfl ?_
  refine wLsn 860 i0_859 rfl rfl ?_
  refine wLin 861 i0_860 rfl rfl ?_
  refine wK 862 1 i0_861 (by decide) rfl ?_
  refine wA 863 i0_862 rfl rfl rfl ?_
  refine tTop (v := 1) (by decide) ?_
  refine wSal6 864 1 i0_863 (by decide) rfl rfl ?_
  refine wLsn 865 i0_864 rfl rfl ?_
  refine wLin 866 i0_865 rfl rfl ?_
  refine wK 867 2 i0_866 (by decide) rfl ?_
  refine wA 868 i0_867 rfl rfl rfl ?_
  refine tTop (v := 2) (by decide) ?_
  refine wSal6 869 2 i0_868 (by decide) rfl rfl ?_
  refine wLsn 870 i0_869 rfl rfl ?_
  refine wLin 871 i0_870 rfl rfl ?_
  refine wK 872 3 i0_871 (by decide) rfl ?_
  refine wA 873 i0_872 rfl rfl rfl ?_
  refine tTop (v := 3) (by decide) ?_
  refine wSal6 874 3 i0_873 (by decide) rfl rfl ?_
  refine jUse 877 [.ref 0, .int (xs 1), .int (xs 2), .int (xs 3)] [] [(0, .ref 0), (1, .int (xs 1)), (2, .int (xs 2)), (3, .int (xs 3))] i0_874 rfl (xlk0 l0_102) (Or.inl rfl) m116 rfl rfl (Nat.le_of_ble_eq_true rfl) (Nat.le_of_ble_eq_true rfl) (Nat.le_of_ble_eq_true rfl) rfl rfl rfl (q_tells mC _ _ _) ?_
  rintro ⟨v, h', a, b⟩ ⟨e1, ⟨f, e2⟩, e3⟩
  cases e1
  cases e2
  refine ⟨e3, ?_⟩
  show xT xg (6, xs) _ 0 877 [(3, .int 0), (2, .ref 77), (1, .ref 0), (0, .retAddr 0)] [.int _] _ _
  refine wLan 878 i0_877 rfl rfl ?_
  refine wLsn 879 i0_878 rfl rfl ?_
  refine wLin 880 i0_879 rfl rfl ?_
  refine wK 881 1 i0_880 (by decide) rfl ?_
  refine wA 882 i0_881 rfl rfl rfl ?_
  refine tTop (v := 1) (by decide) ?_
  refine wSal6 883 1 i0_882 (by decide) rfl rfl ?_
  refine wLsn 884 i0_883 rfl rfl ?_
  refine wLin 885 i0_884 rfl rfl ?_
  refine wK 886 2 i0_885 (by decide) rfl ?_
  refine wA 887 i0_886 rfl rfl rfl ?_
  refine tTop (v := 2) (by decide) ?_
  refine wSal6 888 2 i0_887 (by decide) rfl rfl ?_
  refine wLsn 889 i0_888 rfl rfl ?_
  refine wLin 890 i0_889 rfl rfl ?_
  refine wK 891 3 i0_890 (by decide) rfl ?_
  refine wA 892 i0_891 rfl rfl rfl ?_
  refine tTop (v := 3) (by decide) ?_
  refine wSal6 893 3 i0_892 (by decide) rfl rfl ?_
  refine tHeap (h' := hM f) rfl ?_
  refine jUse 896 [.ref 77, .int (xs 1), .int (xs 2), .int (xs 3)] [.int _] [(0, .ref 77), (1, .int (xs 1)), (2, .int (xs 2)), (3, .int (xs 3))] i0_893 rfl (xlk0 l0_105) (Or.inl rfl) m187 rfl rfl (Nat.le_of_ble_eq_true rfl) (Nat.le_of_ble_eq_true rfl) (Nat.le_of_ble_eq_true rfl) rfl rfl rfl (r_tells f _ _ _) ?_
  rintro ⟨v, h', a, b⟩ ⟨e1, e3⟩
  cases e1
  refine ⟨e3, ?_⟩
  show xT xg (6, xs) _ 0 896 [(3, .int 0), (2, .ref 77), (1, .ref 0), (0, .retAddr 0)] [.int _, .int _] _ _
  refine wCT 1226 i0_896 rfl (x_ceq _) ?_
  exact law_end _ hQ
set_option maxHeartbeats 4000000 in
set_option maxRecDepth 100000 in
theorem law_c21 {d : Nat} {xs : Nat → Int32} {Q : xR → Prop} (hQ : ∀ h, Q (some (.int 1), h, 0, 0)) : xT xg (6, xs) (d + 13) 0 901 [(3, .int 0), (2, .ref 77), (1, .ref 0), (0, .retAddr 0)] [] (hC mC) Q := by
  refine wLan 902 i0_901 rfl rfl ?_
  refine jUse 905 [.ref 0] [] [(0, .ref 0)] i0_902 rfl (xlk0 l0_106) (Or.inl rfl) m92 rfl rfl (Nat.le_of_ble_eq_true rfl) (Nat.le_of_ble_eq_true rfl) (Nat.le_of_ble_eq_true rfl) rfl rfl rfl (q_image mC ) ?_
  rintro ⟨v, h', a, b⟩ ⟨e1, ⟨f, e2⟩, e3⟩
  cases e1
  cases e2
  refine ⟨e3, ?_⟩
  show xT xg (6, xs) _ 0 905 [(3, .int 0), (2, .ref 77), (1, .ref 0), (0, .retAddr 0)] [.int _] _ _
  refine wLan 906 i0_905 rfl rfl ?_
  refine tHeap (h' := hM f) rfl ?_
  refine jUse 909 [.ref 77] [.int _] [(0, .ref 77)] i0_906 rfl (xlk0 l0_109) (Or.inl rfl) m141 rfl rfl (Nat.le_of_ble_eq_true rfl) (Nat.le_of_ble_eq_true rfl) (Nat.le_of_ble_eq_true rfl) rfl rfl rfl (r_image f ) ?_
  rintro ⟨v, h', a, b⟩ ⟨e1, e3⟩
  cases e1
  refine ⟨e3, ?_⟩
  show xT xg (6, xs) _ 0 909 [(3, .int 0), (2, .ref 77), (1, .ref 0), (0, .retAddr 0)] [.int _, .int _] _ _
  refine wCT 1226 i0_909 rfl (x_ceq _) ?_
  exact law_end _ hQ
set_option maxHeartbeats 4000000 in
set_option maxRecDepth 100000 in
theorem law_c22 {d : Nat} {xs : Nat → Int32} {Q : xR → Prop} (hQ : ∀ h, Q (some (.int 1), h, 0, 0)) : xT xg (6, xs) (d + 13) 0 914 [(3, .int 0), (2, .ref 77), (1, .ref 0), (0, .retAddr 0)] [] (hC mC) Q := by
  refine wLan 915 i0_914 rfl rfl ?_
  refine jUse 918 [.ref 0] [] [(0, .ref 0)] i0_915 rfl (xlk0 l0_110) (Or.inl rfl) m79 rfl rfl (Nat.le_of_ble_eq_true rfl) (Nat.le_of_ble_eq_true rfl) (Nat.le_of_ble_eq_true rfl) rfl rfl rfl (q_back mC ) ?_
  rintro ⟨v, h', a, b⟩ ⟨e1, ⟨f, e2⟩, e3⟩
  cases e1
  cases e2
  refine ⟨e3, ?_⟩
  show xT xg (6, xs) _ 0 918 [(3, .int 0), (2, .ref 77), (1, .ref 0), (0, .retAddr 0)] [.int _] _ _
  refine wLan 919 i0_918 rfl rfl ?_
  refine tHeap (h' := hM f) rfl ?_
  refine jUse 922 [.ref 77] [.int _] [(0, .ref 77)] i0_919 rfl (xlk0 l0_113) (Or.inl rfl) m120 rfl rfl (Nat.le_of_ble_eq_true rfl) (Nat.le_of_ble_eq_true rfl) (Nat.le_of_ble_eq_true rfl) rfl rfl rfl (r_back f ) ?_
  rintro ⟨v, h', a, b⟩ ⟨e1, e3⟩
  cases e1
  refine ⟨e3, ?_⟩
  show xT xg (6, xs) _ 0 922 [(3, .int 0), (2, .ref 77), (1, .ref 0), (0, .retAddr 0)] [.int _, .int _] _ _
  refine wCT 1226 i0_922 rfl (x_ceq _) ?_
  exact law_end _ hQ
set_option maxHeartbeats 4000000 in
set_option maxRecDepth 100000 in
theorem law_c23 {d : Nat} {xs : Nat → Int32} {Q : xR → Prop} (hQ : ∀ h, Q (some (.int 1), h, 0, 0)) : xT xg (6, xs) (d + 13) 0 927 [(3, .int 0), (2, .ref 77), (1, .ref 0), (0, .retAddr 0)] [] (hC mC) Q := by
  refine wLan 928 i0_927 rfl rfl ?_
  refine wLsn 929 i0_928 rfl rfl ?_
  refine wLin 930 i0_929 rfl rfl ?_
  refine wK 931 1 i0_930 (by decide) rfl ?_
  refine wA 932 i0_931 rfl rfl rfl ?_
  refine tTop (v := 1) (by decide) ?_
  refine wSal6 933 1 i0_932 (by decide) rfl rfl ?_
  refine jUse 936 [.ref 0, .int (xs 1)] [] [(0, .ref 0), (1, .int (xs 1))] i0_933 rfl (xlk0 l0_114) (Or.inl rfl) m81 rfl rfl (Nat.le_of_ble_eq_true rfl) (Nat.le_of_ble_eq_true rfl) (Nat.le_of_ble_eq_true rfl) rfl rfl rfl (q_count mC _) ?_
  rintro ⟨v, h', a, b⟩ ⟨e1, ⟨f, e2⟩, e3⟩
  cases e1
  cases e2
  refine ⟨e3, ?_⟩
  show xT xg (6, xs) _ 0 936 [(3, .int 0), (2, .ref 77), (1, .ref 0), (0, .retAddr 0)] [.int _] _ _
  refine wLan 937 i0_936 rfl rfl ?_
  refine wLsn 938 i0_937 rfl rfl ?_
  refine wLin 939 i0_938 rfl rfl ?_
  refine wK 940 1 i0_939 (by decide) rfl ?_
  refine wA 941 i0_940 rfl rfl rfl ?_
  refine tTop (v := 1) (by decide) ?_
  refine wSal6 942 1 i0_941 (by decide) rfl rfl ?_
  refine tHeap (h' := hM f) rfl ?_
  refine jUse 945 [.ref 77, .int (xs 1)] [.int _] [(0, .ref 77), (1, .int (xs 1))] i0_942 rfl (xlk0 l0_117) (Or.inl rfl) m124 rfl rfl (Nat.le_of_ble_eq_true rfl) (Nat.le_of_ble_eq_true rfl) (Nat.le_of_ble_eq_true rfl) rfl rfl rfl (r_count f _) ?_
  rintro ⟨v, h', a, b⟩ ⟨e1, e3⟩
  cases e1
  refine ⟨e3, ?_⟩
  show xT xg (6, xs) _ 0 945 [(3, .int 0), (2, .ref 77), (1, .ref 0), (0, .retAddr 0)] [.int _, .int _] _ _
  refine wCT 1226 i0_945 rfl (x_ceq _) ?_
  exact law_end _ hQ
set_option maxHeartbeats 4000000 in
set_option maxRecDepth 100000 in
theorem law_c24 {d : Nat} {xs : Nat → Int32} {Q : xR → Prop} (hQ : ∀ h, Q (some (.int 1), h, 0, 0)) : xT xg (6, xs) (d + 13) 0 950 [(3, .int 0), (2, .ref 77), (1, .ref 0), (0, .retAddr 0)] [] (hC mC) Q := by
  refine wLan 951 i0_950 rfl rfl ?_
  refine wLsn 952 i0_951 rfl rfl ?_
  refine wLin 953 i0_952 rfl rfl ?_
  refine wK 954 1 i0_953 (by decide) rfl ?_
  refine wA 955 i0_954 rfl rfl rfl ?_
  refine tTop (v := 1) (by decide) ?_
  refine wSal6 956 1 i0_955 (by decide) rfl rfl ?_
  refine wLsn 957 i0_956 rfl rfl ?_
  refine wLin 958 i0_957 rfl rfl ?_
  refine wK 959 2 i0_958 (by decide) rfl ?_
  refine wA 960 i0_959 rfl rfl rfl ?_
  refine tTop (v := 2) (by decide) ?_
  refine wSal6 961 2 i0_960 (by decide) rfl rfl ?_
  refine wLsn 962 i0_961 rfl rfl ?_
  refine wLin 963 i0_962 rfl rfl ?_
  refine wK 964 3 i0_963 (by decide) rfl ?_
  refine wA 965 i0_964 rfl rfl rfl ?_
  refine tTop (v := 3) (by decide) ?_
  refine wSal6 966 3 i0_965 (by decide) rfl rfl ?_
  refine jUse 969 [.ref 0, .int (xs 1), .int (xs 2), .int (xs 3)] [] [(0, .ref 0), (1, .int (xs 1)), (2, .int (xs 2)), (3, .int (xs 3))] i0_966 rfl (xlk0 l0_118) (Or.inl rfl) m111 rfl rfl (Nat.le_of_ble_eq_true rfl) (Nat.le_of_ble_eq_true rfl) (Nat.le_of_ble_eq_true rfl) rfl rfl rfl (q_sheet mC _ _ _) ?_
  rintro ⟨v, h', a, b⟩ ⟨e1, ⟨f, e2⟩, e3⟩
  cases e1
  cases e2
  refine ⟨e3, ?_⟩
  show xT xg (6, xs) _ 0 969 [(3, .int 0), (2, .ref 77), (1, .ref 0), (0, .retAddr 0)] [.int _] _ _
  refine wLan 970 i0_969 rfl rfl ?_
  refine wLsn 971 i0_970 rfl rfl ?_
  refine wLin 972 i0_971 rfl rfl ?_
  refine wK 973 1 i0_972 (by decide) rfl ?_
  refine wA 974 i0_973 rfl rfl rfl ?_
  refine tTop (v := 1) (by decide) ?_
  refine wSal6 975 1 i0_974 (by decide) rfl rfl ?_
  refine wLsn 976 i0_975 rfl rfl ?_
  refine wLin 977 i0_976 rfl rfl ?_
  refine wK 978 2 i0_977 (by decide) rfl ?_
  refine wA 979 i0_978 rfl rfl rfl ?_
  refine tTop (v := 2) (by decide) ?_
  refine wSal6 980 2 i0_979 (by decide) rfl rfl ?_
  refine wLsn 981 i0_980 rfl rfl ?_
  refine wLin 982 i0_981 rfl rfl ?_
  refine wK 983 3 i0_982 (by decide) rfl ?_
  refine wA 984 i0_983 rfl rfl rfl ?_
  refine tTop (v := 3) (by decide) ?_
  refine wSal6 985 3 i0_984 (by decide) rfl rfl ?_
  refine tHeap (h' := hM f) rfl ?_
  refine jUse 988 [.ref 77, .int (xs 1), .int (xs 2), .int (xs 3)] [.int _] [(0, .ref 77), (1, .int (xs 1)), (2, .int (xs 2)), (3, .int (xs 3))] i0_985 rfl (xlk0 l0_121) (Or.inl rfl) m183 rfl rfl (Nat.le_of_ble_eq_true rfl) (Nat.le_of_ble_eq_true rfl) (Nat.le_of_ble_eq_true rfl) rfl rfl rfl (r_sheet f _ _ _) ?_
  rintro ⟨v, h', a, b⟩ ⟨e1, e3⟩
  cases e1
  refine ⟨e3, ?_⟩
  show xT xg (6, xs) _ 0 988 [(3, .int 0), (2, .ref 77), (1, .ref 0), (0, .retAddr 0)] [.int _, .int _] _ _
  refine wCT 1226 i0_988 rfl (x_ceq _) ?_
  exact law_end _ hQ
set_option maxHeartbeats 4000000 in
set_option maxRecDepth 100000 in
theorem law_c25 {d : Nat} {xs : Nat → Int32} {Q : xR → Prop} (hQ : ∀ h, Q (some (.int 1), h, 0, 0)) : xT xg (6, xs) (d + 13) 0 993 [(3, .int 0), (2, .ref 77), (1, .ref 0), (0, .retAddr 0)] [] (hC mC) Q := by
  refine wLan 994 i0_993 rfl rfl ?_
  refine wLsn 995 i0_994 rfl rfl ?_
  refine wLin 996 i0_995 rfl rfl ?_
  refine wK 997 1 i0_996 (by decide) rfl ?_
  refine wA 998 i0_997 rfl rfl rfl ?_
  refine tTop (v := 1) (by decide) ?_
  refine wSal6 999 1 i0_998 (by decide) rfl rfl ?_
  refine wLsn 1000 i0_999 rfl rfl ?_
  refine wLin 1001 i0_1000 rfl rfl ?_
  refine wK 1002 2 i0_1001 (by decide) rfl ?_
  refine wA 1003 i0_1002 rfl rfl rfl ?_
  refine tTop (v := 2) (by decide) ?_
  refine wSal6 1004 2 i0_1003 (by decide) rfl rfl ?_
  refine wLsn 1005 i0_1004 rfl rfl ?_
  refine wLin 1006 i0_1005 rfl rfl ?_
  refine wK 1007 3 i0_1006 (by decide) rfl ?_
  refine wA 1008 i0_1007 rfl rfl rfl ?_
  refine tTop (v := 3) (by decide) ?_
  refine wSal6 1009 3 i0_1008 (by decide) rfl rfl ?_
  refine wA 1010 i0_1009 rfl rfl rfl ?_
  refine wKb 1012 32 i0_1010 (by decide) rfl ?_
  refine wA 1013 i0_1012 rfl rfl rfl ?_
  refine wLsn 1014 i0_1013 rfl rfl ?_
  refine wLin 1015 i0_1014 rfl rfl ?_
  refine wK 1016 4 i0_1015 (by decide) rfl ?_
  refine wA 1017 i0_1016 rfl rfl rfl ?_
  refine tTop (v := 4) (by decide) ?_
  refine wSal6 1018 4 i0_1017 (by decide) rfl rfl ?_
  refine wA 1019 i0_1018 rfl rfl rfl ?_
  refine wKd 1022 4294967295 i0_1019 c0_83 rfl ?_
  refine wA 1023 i0_1022 rfl rfl rfl ?_
  refine wA 1024 i0_1023 rfl rfl rfl ?_
  refine jUse 1027 [.ref 0, .int (xs 1), .int (xs 2), .long _] [] [(0, .ref 0), (1, .int (xs 1)), (2, .int (xs 2)), (3, .long _)] i0_1024 rfl (xlk0 l0_122) (Or.inl rfl) m107 rfl rfl (Nat.le_of_ble_eq_true rfl) (Nat.le_of_ble_eq_true rfl) (Nat.le_of_ble_eq_true rfl) rfl rfl rfl (q_put mC _ _ _) ?_
  rintro ⟨v, h', a, b⟩ ⟨e1, ⟨f, e2⟩, e3⟩
  cases e1
  cases e2
  refine ⟨e3, ?_⟩
  show xT xg (6, xs) _ 0 1027 [(3, .int 0), (2, .ref 77), (1, .ref 0), (0, .retAddr 0)] [.int _] _ _
  refine wLan 1028 i0_1027 rfl rfl ?_
  refine wLsn 1029 i0_1028 rfl rfl ?_
  refine wLin 1030 i0_1029 rfl rfl ?_
  refine wK 1031 1 i0_1030 (by decide) rfl ?_
  refine wA 1032 i0_1031 rfl rfl rfl ?_
  refine tTop (v := 1) (by decide) ?_
  refine wSal6 1033 1 i0_1032 (by decide) rfl rfl ?_
  refine wLsn 1034 i0_1033 rfl rfl ?_
  refine wLin 1035 i0_1034 rfl rfl ?_
  refine wK 1036 2 i0_1035 (by decide) rfl ?_
  refine wA 1037 i0_1036 rfl rfl rfl ?_
  refine tTop (v := 2) (by decide) ?_
  refine wSal6 1038 2 i0_1037 (by decide) rfl rfl ?_
  refine wLsn 1039 i0_1038 rfl rfl ?_
  refine wLin 1040 i0_1039 rfl rfl ?_
  refine wK 1041 3 i0_1040 (by decide) rfl ?_
  refine wA 1042 i0_1041 rfl rfl rfl ?_
  refine tTop (v := 3) (by decide) ?_
  refine wSal6 1043 3 i0_1042 (by decide) rfl rfl ?_
  refine wA 1044 i0_1043 rfl rfl rfl ?_
  refine wKb 1046 32 i0_1044 (by decide) rfl ?_
  refine wA 1047 i0_1046 rfl rfl rfl ?_
  refine wLsn 1048 i0_1047 rfl rfl ?_
  refine wLin 1049 i0_1048 rfl rfl ?_
  refine wK 1050 4 i0_1049 (by decide) rfl ?_
  refine wA 1051 i0_1050 rfl rfl rfl ?_
  refine tTop (v := 4) (by decide) ?_
  refine wSal6 1052 4 i0_1051 (by decide) rfl rfl ?_
  refine wA 1053 i0_1052 rfl rfl rfl ?_
  refine wKd 1056 4294967295 i0_1053 c0_83 rfl ?_
  refine wA 1057 i0_1056 rfl rfl rfl ?_
  refine wA 1058 i0_1057 rfl rfl rfl ?_
  refine tHeap (h' := hM f) rfl ?_
  refine jUse 1061 [.ref 77, .int (xs 1), .int (xs 2), .long _] [.int _] [(0, .ref 77), (1, .int (xs 1)), (2, .int (xs 2)), (3, .long _)] i0_1058 rfl (xlk0 l0_126) (Or.inl rfl) m179 rfl rfl (Nat.le_of_ble_eq_true rfl) (Nat.le_of_ble_eq_true rfl) (Nat.le_of_ble_eq_true rfl) rfl rfl rfl (r_put f _ _ _) ?_
  rintro ⟨v, h', a, b⟩ ⟨e1, e3⟩
  cases e1
  refine ⟨e3, ?_⟩
  show xT xg (6, xs) _ 0 1061 [(3, .int 0), (2, .ref 77), (1, .ref 0), (0, .retAddr 0)] [.int _, .int _] _ _
  refine wCT 1226 i0_1061 rfl (x_ceq _) ?_
  exact law_end _ hQ
set_option maxHeartbeats 4000000 in
set_option maxRecDepth 100000 in
theorem law_c26 {d : Nat} {xs : Nat → Int32} {Q : xR → Prop} (hQ : ∀ h, Q (some (.int 1), h, 0, 0)) : xT xg (6, xs) (d + 13) 0 1066 [(3, .int 0), (2, .ref 77), (1, .ref 0), (0, .retAddr 0)] [] (hC mC) Q := by
  refine wLan 1067 i0_1066 rfl rfl ?_
  refine wLsn 1068 i0_1067 rfl rfl ?_
  refine wLin 1069 i0_1068 rfl rfl ?_
  refine wK 1070 1 i0_1069 (by decide) rfl ?_
  refine wA 1071 i0_1070 rfl rfl rfl ?_
  refine tTop (v := 1) (by decide) ?_
  refine wSal6 1072 1 i0_1071 (by decide) rfl rfl ?_
  refine wLsn 1073 i0_1072 rfl rfl ?_
  refine wLin 1074 i0_1073 rfl rfl ?_
  refine wK 1075 2 i0_1074 (by decide) rfl ?_
  refine wA 1076 i0_1075 rfl rfl rfl ?_
  refine tTop (v := 2) (by decide) ?_
  refine wSal6 1077 2 i0_1076 (by decide) rfl rfl ?_
  refine jUse 1080 [.ref 0, .int (xs 1), .int (xs 2)] [] [(0, .ref 0), (1, .int (xs 1)), (2, .int (xs 2))] i0_1077 rfl (xlk0 l0_127) (Or.inl rfl) m100 rfl rfl (Nat.le_of_ble_eq_true rfl) (Nat.le_of_ble_eq_true rfl) (Nat.le_of_ble_eq_true rfl) rfl rfl rfl (q_item mC _ _) ?_
  rintro ⟨v, h', a, b⟩ ⟨e1, ⟨f, e2⟩, e3⟩
  cases e1
  cases e2
  refine ⟨e3, ?_⟩
  show xT xg (6, xs) _ 0 1080 [(3, .int 0), (2, .ref 77), (1, .ref 0), (0, .retAddr 0)] [.long _] _ _
  refine wLan 1081 i0_1080 rfl rfl ?_
  refine wLsn 1082 i0_1081 rfl rfl ?_
  refine wLin 1083 i0_1082 rfl rfl ?_
  refine wK 1084 1 i0_1083 (by decide) rfl ?_
  refine wA 1085 i0_1084 rfl rfl rfl ?_
  refine tTop (v := 1) (by decide) ?_
  refine wSal6 1086 1 i0_1085 (by decide) rfl rfl ?_
  refine wLsn 1087 i0_1086 rfl rfl ?_
  refine wLin 1088 i0_1087 rfl rfl ?_
  refine wK 1089 2 i0_1088 (by decide) rfl ?_
  refine wA 1090 i0_1089 rfl rfl rfl ?_
  refine tTop (v := 2) (by decide) ?_
  refine wSal6 1091 2 i0_1090 (by decide) rfl rfl ?_
  refine tHeap (h' := hM f) rfl ?_
  refine jUse 1094 [.ref 77, .int (xs 1), .int (xs 2)] [.long _] [(0, .ref 77), (1, .int (xs 1)), (2, .int (xs 2))] i0_1091 rfl (xlk0 l0_130) (Or.inl rfl) m155 rfl rfl (Nat.le_of_ble_eq_true rfl) (Nat.le_of_ble_eq_true rfl) (Nat.le_of_ble_eq_true rfl) rfl rfl rfl (r_item f _ _) ?_
  rintro ⟨v, h', a, b⟩ ⟨e1, e3⟩
  cases e1
  refine ⟨e3, ?_⟩
  show xT xg (6, xs) _ 0 1094 [(3, .int 0), (2, .ref 77), (1, .ref 0), (0, .retAddr 0)] [.long _, .long _] _ _
  refine wA 1095 i0_1094 rfl rfl rfl ?_
  refine tTop (v := 0) (x_cmps _) ?_
  refine wZT 1226 i0_1095 rfl (by decide) ?_
  exact law_end _ hQ
set_option maxHeartbeats 4000000 in
set_option maxRecDepth 100000 in
theorem law_c27 {d : Nat} {xs : Nat → Int32} {Q : xR → Prop} (hQ : ∀ h, Q (some (.int 1), h, 0, 0)) : xT xg (6, xs) (d + 13) 0 1100 [(3, .int 0), (2, .ref 77), (1, .ref 0), (0, .retAddr 0)] [] (hC mC) Q := by
  refine wLan 1101 i0_1100 rfl rfl ?_
  refine wLsn 1102 i0_1101 rfl rfl ?_
  refine wLin 1103 i0_1102 rfl rfl ?_
  refine wK 1104 1 i0_1103 (by decide) rfl ?_
  refine wA 1105 i0_1104 rfl rfl rfl ?_
  refine tTop (v := 1) (by decide) ?_
  refine wSal6 1106 1 i0_1105 (by decide) rfl rfl ?_
  refine wLsn 1107 i0_1106 rfl rfl ?_
  refine wLin 1108 i0_1107 rfl rfl ?_
  refine wK 1109 2 i0_1108 (by decide) rfl ?_
  refine wA 1110 i0_1109 rfl rfl rfl ?_
  refine tTop (v := 2) (by decide) ?_
  refine wSal6 1111 2 i0_1110 (by decide) rfl rfl ?_
  refine wLsn 1112 i0_1111 rfl rfl ?_
  refine wLin 1113 i0_1112 rfl rfl ?_
  refine wK 1114 3 i0_1113 (by decide) rfl ?_
  refine wA 1115 i0_1114 rfl rfl rfl ?_
  refine tTop (v := 3) (by decide) ?_
  refine wSal6 1116 3 i0_1115 (by decide) rfl rfl ?_
  refine wLsn 1117 i0_1116 rfl rfl ?_
  refine wLin 1118 i0_1117 rfl rfl ?_
  refine wK 1119 4 i0_1118 (by decide) rfl ?_
  refine wA 1120 i0_1119 rfl rfl rfl ?_
  refine tTop (v := 4) (by decide) ?_
  refine wSal6 1121 4 i0_1120 (by decide) rfl rfl ?_
  refine wLsn 1122 i0_1121 rfl rfl ?_
  refine wLin 1123 i0_1122 rfl rfl ?_
  refine wK 1124 5 i0_1123 (by decide) rfl ?_
  refine wA 1125 i0_1124 rfl rfl rfl ?_
  refine tTop (v := 5) (by decide) ?_
  refine wSal6 1126 5 i0_1125 (by decide) rfl rfl ?_
  refine jUse 1129 [.ref 0, .int (xs 1), .int (xs 2), .int (xs 3), .int (xs 4), .int (xs 5)] [] [(0, .ref 0), (1, .int (xs 1)), (2, .int (xs 2)), (3, .int (xs 3)), (4, .int (xs 4)), (5, .int (xs 5))] i0_1126 rfl (xlk0 l0_131) (Or.inl rfl) m80 rfl rfl (Nat.le_of_ble_eq_true rfl) (Nat.le_of_ble_eq_true rfl) (Nat.le_of_ble_eq_true rfl) rfl rfl rfl (q_copy mC _ _ _ _ _) ?_
  rintro ⟨v, h', a, b⟩ ⟨e1, ⟨f, e2⟩, e3⟩
  cases e1
  cases e2
  refine ⟨e3, ?_⟩
  show xT xg (6, xs) _ 0 1129 [(3, .int 0), (2, .ref 77), (1, .ref 0), (0, .retAddr 0)] [.int _] _ _
  refine wLan 1130 i0_1129 rfl rfl ?_
  refine wLsn 1131 i0_1130 rfl rfl ?_
  refine wLin 1132 i0_1131 rfl rfl ?_
  refine wK 1133 1 i0_1132 (by decide) rfl ?_
  refine wA 1134 i0_1133 rfl rfl rfl ?_
  refine tTop (v := 1) (by decide) ?_
  refine wSal6 1135 1 i0_1134 (by decide) rfl rfl ?_
  refine wLsn 1136 i0_1135 rfl rfl ?_
  refine wLin 1137 i0_1136 rfl rfl ?_
  refine wK 1138 2 i0_1137 (by decide) rfl ?_
  refine wA 1139 i0_1138 rfl rfl rfl ?_
  refine tTop (v := 2) (by decide) ?_
  refine wSal6 1140 2 i0_1139 (by decide) rfl rfl ?_
  refine wLsn 1141 i0_1140 rfl rfl ?_
  refine wLin 1142 i0_1141 rfl rfl ?_
  refine wK 1143 3 i0_1142 (by decide) rfl ?_
  refine wA 1144 i0_1143 rfl rfl rfl ?_
  refine tTop (v := 3) (by decide) ?_
  refine wSal6 1145 3 i0_1144 (by decide) rfl rfl ?_
  refine wLsn 1146 i0_1145 rfl rfl ?_
  refine wLin 1147 i0_1146 rfl rfl ?_
  refine wK 1148 4 i0_1147 (by decide) rfl ?_
  refine wA 1149 i0_1148 rfl rfl rfl ?_
  refine tTop (v := 4) (by decide) ?_
  refine wSal6 1150 4 i0_1149 (by decide) rfl rfl ?_
  refine wLsn 1151 i0_1150 rfl rfl ?_
  refine wLin 1152 i0_1151 rfl rfl ?_
  refine wK 1153 5 i0_1152 (by decide) rfl ?_
  refine wA 1154 i0_1153 rfl rfl rfl ?_
  refine tTop (v := 5) (by decide) ?_
  refine wSal6 1155 5 i0_1154 (by decide) rfl rfl ?_
  refine tHeap (h' := hM f) rfl ?_
  refine jUse 1158 [.ref 77, .int (xs 1), .int (xs 2), .int (xs 3), .int (xs 4), .int (xs 5)] [.int _] [(0, .ref 77), (1, .int (xs 1)), (2, .int (xs 2)), (3, .int (xs 3)), (4, .int (xs 4)), (5, .int (xs 5))] i0_1155 rfl (xlk0 l0_135) (Or.inl rfl) m123 rfl rfl (Nat.le_of_ble_eq_true rfl) (Nat.le_of_ble_eq_true rfl) (Nat.le_of_ble_eq_true rfl) rfl rfl rfl (r_copy f _ _ _ _ _) ?_
  rintro ⟨v, h', a, b⟩ ⟨e1, e3⟩
  cases e1
  refine ⟨e3, ?_⟩
  show xT xg (6, xs) _ 0 1158 [(3, .int 0), (2, .ref 77), (1, .ref 0), (0, .retAddr 0)] [.int _, .int _] _ _
  refine wCT 1226 i0_1158 rfl (x_ceq _) ?_
  exact law_end _ hQ
set_option maxHeartbeats 4000000 in
set_option maxRecDepth 100000 in
theorem law_c28 {d : Nat} {xs : Nat → Int32} {Q : xR → Prop} (hQ : ∀ h, Q (some (.int 1), h, 0, 0)) : xT xg (6, xs) (d + 13) 0 1163 [(3, .int 0), (2, .ref 77), (1, .ref 0), (0, .retAddr 0)] [] (hC mC) Q := by
  refine wLan 1164 i0_1163 rfl rfl ?_
  refine wLsn 1165 i0_1164 rfl rfl ?_
  refine wLin 1166 i0_1165 rfl rfl ?_
  refine wK 1167 1 i0_1166 (by decide) rfl ?_
  refine wA 1168 i0_1167 rfl rfl rfl ?_
  refine tTop (v := 1) (by decide) ?_
  refine wSal6 1169 1 i0_1168 (by decide) rfl rfl ?_
  refine wLsn 1170 i0_1169 rfl rfl ?_
  refine wLin 1171 i0_1170 rfl rfl ?_
  refine wK 1172 2 i0_1171 (by decide) rfl ?_
  refine wA 1173 i0_1172 rfl rfl rfl ?_
  refine tTop (v := 2) (by decide) ?_
  refine wSal6 1174 2 i0_1173 (by decide) rfl rfl ?_
  refine wLsn 1175 i0_1174 rfl rfl ?_
  refine wLin 1176 i0_1175 rfl rfl ?_
  refine wK 1177 3 i0_1176 (by decide) rfl ?_
  refine wA 1178 i0_1177 rfl rfl rfl ?_
  refine tTop (v := 3) (by decide) ?_
  refine wSal6 1179 3 i0_1178 (by decide) rfl rfl ?_
  refine wLsn 1180 i0_1179 rfl rfl ?_
  refine wLin 1181 i0_1180 rfl rfl ?_
  refine wK 1182 4 i0_1181 (by decide) rfl ?_
  refine wA 1183 i0_1182 rfl rfl rfl ?_
  refine tTop (v := 4) (by decide) ?_
  refine wSal6 1184 4 i0_1183 (by decide) rfl rfl ?_
  refine wLsn 1185 i0_1184 rfl rfl ?_
  refine wLin 1186 i0_1185 rfl rfl ?_
  refine wK 1187 5 i0_1186 (by decide) rfl ?_
  refine wA 1188 i0_1187 rfl rfl rfl ?_
  refine tTop (v := 5) (by decide) ?_
  refine wSal6 1189 5 i0_1188 (by decide) rfl rfl ?_
  refine jUse 1192 [.ref 0, .int (xs 1), .int (xs 2), .int (xs 3), .int (xs 4), .int (xs 5)] [] [(0, .ref 0), (1, .int (xs 1)), (2, .int (xs 2)), (3, .int (xs 3)), (4, .int (xs 4)), (5, .int (xs 5))] i0_1189 rfl (xlk0 l0_136) (Or.inl rfl) m101 rfl rfl (Nat.le_of_ble_eq_true rfl) (Nat.le_of_ble_eq_true rfl) (Nat.le_of_ble_eq_true rfl) rfl rfl rfl (q_lay mC _ _ _ _ _) ?_
  rintro ⟨v, h', a, b⟩ ⟨e1, ⟨f, e2⟩, e3⟩
  cases e1
  cases e2
  refine ⟨e3, ?_⟩
  show xT xg (6, xs) _ 0 1192 [(3, .int 0), (2, .ref 77), (1, .ref 0), (0, .retAddr 0)] [.int _] _ _
  refine wLan 1193 i0_1192 rfl rfl ?_
  refine wLsn 1194 i0_1193 rfl rfl ?_
  refine wLin 1195 i0_1194 rfl rfl ?_
  refine wK 1196 1 i0_1195 (by decide) rfl ?_
  refine wA 1197 i0_1196 rfl rfl rfl ?_
  refine tTop (v := 1) (by decide) ?_
  refine wSal6 1198 1 i0_1197 (by decide) rfl rfl ?_
  refine wLsn 1199 i0_1198 rfl rfl ?_
  refine wLin 1200 i0_1199 rfl rfl ?_
  refine wK 1201 2 i0_1200 (by decide) rfl ?_
  refine wA 1202 i0_1201 rfl rfl rfl ?_
  refine tTop (v := 2) (by decide) ?_
  refine wSal6 1203 2 i0_1202 (by decide) rfl rfl ?_
  refine wLsn 1204 i0_1203 rfl rfl ?_
  refine wLin 1205 i0_1204 rfl rfl ?_
  refine wK 1206 3 i0_1205 (by decide) rfl ?_
  refine wA 1207 i0_1206 rfl rfl rfl ?_
  refine tTop (v := 3) (by decide) ?_
  refine wSal6 1208 3 i0_1207 (by decide) rfl rfl ?_
  refine wLsn 1209 i0_1208 rfl rfl ?_
  refine wLin 1210 i0_1209 rfl rfl ?_
  refine wK 1211 4 i0_1210 (by decide) rfl ?_
  refine wA 1212 i0_1211 rfl rfl rfl ?_
  refine tTop (v := 4) (by decide) ?_
  refine wSal6 1213 4 i0_1212 (by decide) rfl rfl ?_
  refine wLsn 1214 i0_1213 rfl rfl ?_
  refine wLin 1215 i0_1214 rfl rfl ?_
  refine wK 1216 5 i0_1215 (by decide) rfl ?_
  refine wA 1217 i0_1216 rfl rfl rfl ?_
  refine tTop (v := 5) (by decide) ?_
  refine wSal6 1218 5 i0_1217 (by decide) rfl rfl ?_
  refine tHeap (h' := hM f) rfl ?_
  refine jUse 1221 [.ref 77, .int (xs 1), .int (xs 2), .int (xs 3), .int (xs 4), .int (xs 5)] [.int _] [(0, .ref 77), (1, .int (xs 1)), (2, .int (xs 2)), (3, .int (xs 3)), (4, .int (xs 4)), (5, .int (xs 5))] i0_1218 rfl (xlk0 l0_139) (Or.inl rfl) m160 rfl rfl (Nat.le_of_ble_eq_true rfl) (Nat.le_of_ble_eq_true rfl) (Nat.le_of_ble_eq_true rfl) rfl rfl rfl (r_lay f _ _ _ _ _) ?_
  rintro ⟨v, h', a, b⟩ ⟨e1, e3⟩
  cases e1
  refine ⟨e3, ?_⟩
  show xT xg (6, xs) _ 0 1221 [(3, .int 0), (2, .ref 77), (1, .ref 0), (0, .retAddr 0)] [.int _, .int _] _ _
  refine wCT 1226 i0_1221 rfl (x_ceq _) ?_
  exact law_end _ hQ

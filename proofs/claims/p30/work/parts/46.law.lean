theorem l0_136 : xMth xg 0 136 = some (0, 101, 6, 6) := by decide +kernel
theorem l0_139 : xMth xg 0 139 = some (0, 160, 6, 7) := by decide +kernel
theorem l0_131 : xMth xg 0 131 = some (0, 80, 6, 6) := by decide +kernel
theorem l0_135 : xMth xg 0 135 = some (0, 123, 6, 7) := by decide +kernel
theorem l0_127 : xMth xg 0 127 = some (0, 100, 3, 6) := by decide +kernel
theorem l0_130 : xMth xg 0 130 = some (0, 155, 3, 7) := by decide +kernel
theorem l0_122 : xMth xg 0 122 = some (0, 107, 4, 6) := by decide +kernel
theorem l0_126 : xMth xg 0 126 = some (0, 179, 4, 7) := by decide +kernel
theorem l0_118 : xMth xg 0 118 = some (0, 111, 4, 6) := by decide +kernel
theorem l0_121 : xMth xg 0 121 = some (0, 183, 4, 7) := by decide +kernel
theorem l0_114 : xMth xg 0 114 = some (0, 81, 2, 6) := by decide +kernel
theorem l0_117 : xMth xg 0 117 = some (0, 124, 2, 7) := by decide +kernel
theorem l0_110 : xMth xg 0 110 = some (0, 79, 1, 6) := by decide +kernel
theorem l0_113 : xMth xg 0 113 = some (0, 120, 1, 7) := by decide +kernel
theorem l0_106 : xMth xg 0 106 = some (0, 92, 1, 6) := by decide +kernel
theorem l0_109 : xMth xg 0 109 = some (0, 141, 1, 7) := by decide +kernel
theorem l0_102 : xMth xg 0 102 = some (0, 116, 4, 6) := by decide +kernel
theorem l0_105 : xMth xg 0 105 = some (0, 187, 4, 7) := by decide +kernel
theorem l0_98 : xMth xg 0 98 = some (0, 87, 4, 6) := by decide +kernel
theorem l0_101 : xMth xg 0 101 = some (0, 132, 4, 7) := by decide +kernel
theorem l0_94 : xMth xg 0 94 = some (0, 110, 2, 6) := by decide +kernel
theorem l0_97 : xMth xg 0 97 = some (0, 181, 2, 7) := by decide +kernel
theorem l0_90 : xMth xg 0 90 = some (0, 83, 4, 6) := by decide +kernel
theorem l0_93 : xMth xg 0 93 = some (0, 126, 4, 7) := by decide +kernel
theorem l0_85 : xMth xg 0 85 = some (0, 88, 4, 6) := by decide +kernel
theorem l0_89 : xMth xg 0 89 = some (0, 133, 4, 7) := by decide +kernel
theorem l0_79 : xMth xg 0 79 = some (0, 112, 3, 6) := by decide +kernel
theorem l0_82 : xMth xg 0 82 = some (0, 185, 3, 7) := by decide +kernel
theorem l0_74 : xMth xg 0 74 = some (0, 89, 1, 6) := by decide +kernel
theorem l0_78 : xMth xg 0 78 = some (0, 135, 1, 7) := by decide +kernel
theorem l0_70 : xMth xg 0 70 = some (0, 102, 2, 6) := by decide +kernel
theorem l0_73 : xMth xg 0 73 = some (0, 163, 2, 7) := by decide +kernel
theorem l0_66 : xMth xg 0 66 = some (0, 103, 3, 6) := by decide +kernel
theorem l0_69 : xMth xg 0 69 = some (0, 166, 3, 7) := by decide +kernel
theorem l0_62 : xMth xg 0 62 = some (0, 91, 3, 6) := by decide +kernel
theorem l0_65 : xMth xg 0 65 = some (0, 139, 3, 7) := by decide +kernel
theorem l0_58 : xMth xg 0 58 = some (0, 94, 3, 6) := by decide +kernel
theorem l0_61 : xMth xg 0 61 = some (0, 144, 3, 7) := by decide +kernel
theorem l0_54 : xMth xg 0 54 = some (0, 118, 3, 6) := by decide +kernel
theorem l0_57 : xMth xg 0 57 = some (0, 191, 3, 7) := by decide +kernel
theorem l0_49 : xMth xg 0 49 = some (0, 106, 3, 6) := by decide +kernel
theorem l0_53 : xMth xg 0 53 = some (0, 177, 3, 7) := by decide +kernel
theorem l0_45 : xMth xg 0 45 = some (0, 113, 4, 6) := by decide +kernel
theorem l0_48 : xMth xg 0 48 = some (0, 186, 4, 7) := by decide +kernel
theorem l0_41 : xMth xg 0 41 = some (0, 119, 4, 6) := by decide +kernel
theorem l0_44 : xMth xg 0 44 = some (0, 194, 4, 7) := by decide +kernel
theorem l0_36 : xMth xg 0 36 = some (0, 85, 4, 6) := by decide +kernel
theorem l0_40 : xMth xg 0 40 = some (0, 129, 4, 7) := by decide +kernel
theorem l0_31 : xMth xg 0 31 = some (0, 104, 3, 6) := by decide +kernel
theorem l0_35 : xMth xg 0 35 = some (0, 169, 3, 7) := by decide +kernel
theorem l0_26 : xMth xg 0 26 = some (0, 105, 4, 6) := by decide +kernel
theorem l0_30 : xMth xg 0 30 = some (0, 173, 4, 7) := by decide +kernel
theorem l0_22 : xMth xg 0 22 = some (0, 84, 2, 6) := by decide +kernel
theorem l0_25 : xMth xg 0 25 = some (0, 128, 2, 7) := by decide +kernel
theorem l0_18 : xMth xg 0 18 = some (0, 117, 2, 6) := by decide +kernel
theorem l0_21 : xMth xg 0 21 = some (0, 190, 2, 7) := by decide +kernel
theorem l0_13 : xMth xg 0 13 = some (0, 86, 2, 6) := by decide +kernel
theorem l0_17 : xMth xg 0 17 = some (0, 131, 2, 7) := by decide +kernel
theorem i0_1221 : xIns xg 0 1221 = some (.iinc 3 6) := by decide +kernel
theorem m0 : (xMet xg 0).2.2 = (4, (some .boolean)) := by decide +kernel
theorem i0_1224 : xIns xg 0 1224 = some (.goto (-1206)) := by decide +kernel
theorem i0_18 : xIns xg 0 18 = some (.iload_n 3) := by decide +kernel
theorem i0_19 : xIns xg 0 19 = some (.aload_n 0) := by decide +kernel
theorem i0_20 : xIns xg 0 20 = some (.arraylength) := by decide +kernel
theorem i0_21 : xIns xg 0 21 = some (.bipush 6) := by decide +kernel
theorem i0_23 : xIns xg 0 23 = some (.isub) := by decide +kernel
theorem i0_24 : xIns xg 0 24 = some (.if_icmp .gt 1203) := by decide +kernel
theorem i0_1227 : xIns xg 0 1227 = some (.iconst 1) := by decide +kernel
theorem i0_1228 : xIns xg 0 1228 = some (.ireturn) := by decide +kernel
theorem i0_27 : xIns xg 0 27 = some (.aload_n 0) := by decide +kernel
theorem i0_28 : xIns xg 0 28 = some (.iload_n 3) := by decide +kernel
theorem i0_29 : xIns xg 0 29 = some (.iaload) := by decide +kernel
theorem i0_30 : xIns xg 0 30 = some (.bipush 31) := by decide +kernel
theorem i0_32 : xIns xg 0 32 = some (.iand) := by decide +kernel
theorem i0_33 : xIns xg 0 33 = some (.tableswitch 1188 0 28 #[131, 154, 177, 200, 243, 276, 319, 362, 405, 438, 471, 504, 537, 570, 593, 606, 639, 712, 755, 778, 821, 864, 877, 890, 913, 956, 1029, 1062, 1125]) := by decide +kernel
theorem i0_164 : xIns xg 0 164 = some (.aload_n 1) := by decide +kernel
theorem i0_165 : xIns xg 0 165 = some (.aload_n 0) := by decide +kernel
theorem i0_166 : xIns xg 0 166 = some (.iload_n 3) := by decide +kernel
theorem i0_167 : xIns xg 0 167 = some (.iconst 1) := by decide +kernel
theorem i0_168 : xIns xg 0 168 = some (.iadd) := by decide +kernel
theorem i0_169 : xIns xg 0 169 = some (.iaload) := by decide +kernel
theorem i0_170 : xIns xg 0 170 = some (.invokevirtual 13) := by decide +kernel
theorem i0_173 : xIns xg 0 173 = some (.pop) := by decide +kernel
theorem i0_174 : xIns xg 0 174 = some (.aload_n 2) := by decide +kernel
theorem i0_175 : xIns xg 0 175 = some (.aload_n 0) := by decide +kernel
theorem i0_176 : xIns xg 0 176 = some (.iload_n 3) := by decide +kernel
theorem i0_177 : xIns xg 0 177 = some (.iconst 1) := by decide +kernel
theorem i0_178 : xIns xg 0 178 = some (.iadd) := by decide +kernel
theorem i0_179 : xIns xg 0 179 = some (.iaload) := by decide +kernel
theorem i0_180 : xIns xg 0 180 = some (.invokevirtual 17) := by decide +kernel
theorem i0_183 : xIns xg 0 183 = some (.pop) := by decide +kernel
theorem i0_184 : xIns xg 0 184 = some (.goto 1037) := by decide +kernel
theorem i0_187 : xIns xg 0 187 = some (.aload_n 1) := by decide +kernel
theorem i0_188 : xIns xg 0 188 = some (.aload_n 0) := by decide +kernel
theorem i0_189 : xIns xg 0 189 = some (.iload_n 3) := by decide +kernel
theorem i0_190 : xIns xg 0 190 = some (.iconst 1) := by decide +kernel
theorem i0_191 : xIns xg 0 191 = some (.iadd) := by decide +kernel
theorem i0_192 : xIns xg 0 192 = some (.iaload) := by decide +kernel
theorem i0_193 : xIns xg 0 193 = some (.invokevirtual 18) := by decide +kernel
theorem i0_196 : xIns xg 0 196 = some (.pop) := by decide +kernel
theorem i0_197 : xIns xg 0 197 = some (.aload_n 2) := by decide +kernel
theorem i0_198 : xIns xg 0 198 = some (.aload_n 0) := by decide +kernel
theorem i0_199 : xIns xg 0 199 = some (.iload_n 3) := by decide +kernel
theorem i0_200 : xIns xg 0 200 = some (.iconst 1) := by decide +kernel
theorem i0_201 : xIns xg 0 201 = some (.iadd) := by decide +kernel
theorem i0_202 : xIns xg 0 202 = some (.iaload) := by decide +kernel
theorem i0_203 : xIns xg 0 203 = some (.invokevirtual 21) := by decide +kernel
theorem i0_206 : xIns xg 0 206 = some (.pop) := by decide +kernel
theorem i0_207 : xIns xg 0 207 = some (.goto 1014) := by decide +kernel
theorem i0_210 : xIns xg 0 210 = some (.aload_n 1) := by decide +kernel
theorem i0_211 : xIns xg 0 211 = some (.aload_n 0) := by decide +kernel
theorem i0_212 : xIns xg 0 212 = some (.iload_n 3) := by decide +kernel
theorem i0_213 : xIns xg 0 213 = some (.iconst 1) := by decide +kernel
theorem i0_214 : xIns xg 0 214 = some (.iadd) := by decide +kernel
theorem i0_215 : xIns xg 0 215 = some (.iaload) := by decide +kernel
theorem i0_216 : xIns xg 0 216 = some (.invokevirtual 22) := by decide +kernel
theorem i0_219 : xIns xg 0 219 = some (.pop) := by decide +kernel
theorem i0_220 : xIns xg 0 220 = some (.aload_n 2) := by decide +kernel
theorem i0_221 : xIns xg 0 221 = some (.aload_n 0) := by decide +kernel
theorem i0_222 : xIns xg 0 222 = some (.iload_n 3) := by decide +kernel
theorem i0_223 : xIns xg 0 223 = some (.iconst 1) := by decide +kernel
theorem i0_224 : xIns xg 0 224 = some (.iadd) := by decide +kernel
theorem i0_225 : xIns xg 0 225 = some (.iaload) := by decide +kernel
theorem i0_226 : xIns xg 0 226 = some (.invokevirtual 25) := by decide +kernel
theorem i0_229 : xIns xg 0 229 = some (.pop) := by decide +kernel
theorem i0_230 : xIns xg 0 230 = some (.goto 991) := by decide +kernel
theorem i0_233 : xIns xg 0 233 = some (.aload_n 1) := by decide +kernel
theorem i0_234 : xIns xg 0 234 = some (.aload_n 0) := by decide +kernel
theorem i0_235 : xIns xg 0 235 = some (.iload_n 3) := by decide +kernel
theorem i0_236 : xIns xg 0 236 = some (.iconst 1) := by decide +kernel
theorem i0_237 : xIns xg 0 237 = some (.iadd) := by decide +kernel
theorem i0_238 : xIns xg 0 238 = some (.iaload) := by decide +kernel
theorem i0_239 : xIns xg 0 239 = some (.aload_n 0) := by decide +kernel
theorem i0_240 : xIns xg 0 240 = some (.iload_n 3) := by decide +kernel
theorem i0_241 : xIns xg 0 241 = some (.iconst 2) := by decide +kernel
theorem i0_242 : xIns xg 0 242 = some (.iadd) := by decide +kernel
theorem i0_243 : xIns xg 0 243 = some (.iaload) := by decide +kernel
theorem i0_244 : xIns xg 0 244 = some (.aload_n 0) := by decide +kernel
theorem i0_245 : xIns xg 0 245 = some (.iload_n 3) := by decide +kernel
theorem i0_246 : xIns xg 0 246 = some (.iconst 3) := by decide +kernel
theorem i0_247 : xIns xg 0 247 = some (.iadd) := by decide +kernel
theorem i0_248 : xIns xg 0 248 = some (.iaload) := by decide +kernel
theorem i0_249 : xIns xg 0 249 = some (.invokevirtual 26) := by decide +kernel
theorem i0_252 : xIns xg 0 252 = some (.pop) := by decide +kernel
theorem i0_253 : xIns xg 0 253 = some (.aload_n 2) := by decide +kernel
theorem i0_254 : xIns xg 0 254 = some (.aload_n 0) := by decide +kernel
theorem i0_255 : xIns xg 0 255 = some (.iload_n 3) := by decide +kernel
theorem i0_256 : xIns xg 0 256 = some (.iconst 1) := by decide +kernel
theorem i0_257 : xIns xg 0 257 = some (.iadd) := by decide +kernel
theorem i0_258 : xIns xg 0 258 = some (.iaload) := by decide +kernel
theorem i0_259 : xIns xg 0 259 = some (.aload_n 0) := by decide +kernel
theorem i0_260 : xIns xg 0 260 = some (.iload_n 3) := by decide +kernel
theorem i0_261 : xIns xg 0 261 = some (.iconst 2) := by decide +kernel
theorem i0_262 : xIns xg 0 262 = some (.iadd) := by decide +kernel
theorem i0_263 : xIns xg 0 263 = some (.iaload) := by decide +kernel
theorem i0_264 : xIns xg 0 264 = some (.aload_n 0) := by decide +kernel
theorem i0_265 : xIns xg 0 265 = some (.iload_n 3) := by decide +kernel
theorem i0_266 : xIns xg 0 266 = some (.iconst 3) := by decide +kernel
theorem i0_267 : xIns xg 0 267 = some (.iadd) := by decide +kernel
theorem i0_268 : xIns xg 0 268 = some (.iaload) := by decide +kernel
theorem i0_269 : xIns xg 0 269 = some (.invokevirtual 30) := by decide +kernel
theorem i0_272 : xIns xg 0 272 = some (.pop) := by decide +kernel
theorem i0_273 : xIns xg 0 273 = some (.goto 948) := by decide +kernel
theorem i0_276 : xIns xg 0 276 = some (.aload_n 1) := by decide +kernel
theorem i0_277 : xIns xg 0 277 = some (.aload_n 0) := by decide +kernel
theorem i0_278 : xIns xg 0 278 = some (.iload_n 3) := by decide +kernel
theorem i0_279 : xIns xg 0 279 = some (.iconst 1) := by decide +kernel
theorem i0_280 : xIns xg 0 280 = some (.iadd) := by decide +kernel
theorem i0_281 : xIns xg 0 281 = some (.iaload) := by decide +kernel
theorem i0_282 : xIns xg 0 282 = some (.aload_n 0) := by decide +kernel
theorem i0_283 : xIns xg 0 283 = some (.iload_n 3) := by decide +kernel
theorem i0_284 : xIns xg 0 284 = some (.iconst 2) := by decide +kernel
theorem i0_285 : xIns xg 0 285 = some (.iadd) := by decide +kernel
theorem i0_286 : xIns xg 0 286 = some (.iaload) := by decide +kernel
theorem i0_287 : xIns xg 0 287 = some (.invokevirtual 31) := by decide +kernel
theorem i0_290 : xIns xg 0 290 = some (.pop2) := by decide +kernel
theorem i0_291 : xIns xg 0 291 = some (.aload_n 2) := by decide +kernel
theorem i0_292 : xIns xg 0 292 = some (.aload_n 0) := by decide +kernel
theorem i0_293 : xIns xg 0 293 = some (.iload_n 3) := by decide +kernel
theorem i0_294 : xIns xg 0 294 = some (.iconst 1) := by decide +kernel
theorem i0_295 : xIns xg 0 295 = some (.iadd) := by decide +kernel
theorem i0_296 : xIns xg 0 296 = some (.iaload) := by decide +kernel
theorem i0_297 : xIns xg 0 297 = some (.aload_n 0) := by decide +kernel
theorem i0_298 : xIns xg 0 298 = some (.iload_n 3) := by decide +kernel
theorem i0_299 : xIns xg 0 299 = some (.iconst 2) := by decide +kernel
theorem i0_300 : xIns xg 0 300 = some (.iadd) := by decide +kernel
theorem i0_301 : xIns xg 0 301 = some (.iaload) := by decide +kernel
theorem i0_302 : xIns xg 0 302 = some (.invokevirtual 35) := by decide +kernel
theorem i0_305 : xIns xg 0 305 = some (.pop2) := by decide +kernel
theorem i0_306 : xIns xg 0 306 = some (.goto 915) := by decide +kernel
theorem i0_309 : xIns xg 0 309 = some (.aload_n 1) := by decide +kernel
theorem i0_310 : xIns xg 0 310 = some (.aload_n 0) := by decide +kernel
theorem i0_311 : xIns xg 0 311 = some (.iload_n 3) := by decide +kernel
theorem i0_312 : xIns xg 0 312 = some (.iconst 1) := by decide +kernel
theorem i0_313 : xIns xg 0 313 = some (.iadd) := by decide +kernel
theorem i0_314 : xIns xg 0 314 = some (.iaload) := by decide +kernel
theorem i0_315 : xIns xg 0 315 = some (.aload_n 0) := by decide +kernel
theorem i0_316 : xIns xg 0 316 = some (.iload_n 3) := by decide +kernel
theorem i0_317 : xIns xg 0 317 = some (.iconst 2) := by decide +kernel
theorem i0_318 : xIns xg 0 318 = some (.iadd) := by decide +kernel
theorem i0_319 : xIns xg 0 319 = some (.iaload) := by decide +kernel
theorem i0_320 : xIns xg 0 320 = some (.aload_n 0) := by decide +kernel
theorem i0_321 : xIns xg 0 321 = some (.iload_n 3) := by decide +kernel
theorem i0_322 : xIns xg 0 322 = some (.iconst 3) := by decide +kernel
theorem i0_323 : xIns xg 0 323 = some (.iadd) := by decide +kernel
theorem i0_324 : xIns xg 0 324 = some (.iaload) := by decide +kernel
theorem i0_325 : xIns xg 0 325 = some (.invokevirtual 36) := by decide +kernel
theorem i0_328 : xIns xg 0 328 = some (.pop2) := by decide +kernel
theorem i0_329 : xIns xg 0 329 = some (.aload_n 2) := by decide +kernel
theorem i0_330 : xIns xg 0 330 = some (.aload_n 0) := by decide +kernel
theorem i0_331 : xIns xg 0 331 = some (.iload_n 3) := by decide +kernel
theorem i0_332 : xIns xg 0 332 = some (.iconst 1) := by decide +kernel
theorem i0_333 : xIns xg 0 333 = some (.iadd) := by decide +kernel
theorem i0_334 : xIns xg 0 334 = some (.iaload) := by decide +kernel
theorem i0_335 : xIns xg 0 335 = some (.aload_n 0) := by decide +kernel
theorem i0_336 : xIns xg 0 336 = some (.iload_n 3) := by decide +kernel
theorem i0_337 : xIns xg 0 337 = some (.iconst 2) := by decide +kernel
theorem i0_338 : xIns xg 0 338 = some (.iadd) := by decide +kernel
theorem i0_339 : xIns xg 0 339 = some (.iaload) := by decide +kernel
theorem i0_340 : xIns xg 0 340 = some (.aload_n 0) := by decide +kernel
theorem i0_341 : xIns xg 0 341 = some (.iload_n 3) := by decide +kernel
theorem i0_342 : xIns xg 0 342 = some (.iconst 3) := by decide +kernel
theorem i0_343 : xIns xg 0 343 = some (.iadd) := by decide +kernel
theorem i0_344 : xIns xg 0 344 = some (.iaload) := by decide +kernel
theorem i0_345 : xIns xg 0 345 = some (.invokevirtual 40) := by decide +kernel
theorem i0_348 : xIns xg 0 348 = some (.pop2) := by decide +kernel
theorem i0_349 : xIns xg 0 349 = some (.goto 872) := by decide +kernel
theorem i0_352 : xIns xg 0 352 = some (.aload_n 1) := by decide +kernel
theorem i0_353 : xIns xg 0 353 = some (.aload_n 0) := by decide +kernel
theorem i0_354 : xIns xg 0 354 = some (.iload_n 3) := by decide +kernel
theorem i0_355 : xIns xg 0 355 = some (.iconst 1) := by decide +kernel
theorem i0_356 : xIns xg 0 356 = some (.iadd) := by decide +kernel
theorem i0_357 : xIns xg 0 357 = some (.iaload) := by decide +kernel
theorem i0_358 : xIns xg 0 358 = some (.aload_n 0) := by decide +kernel
theorem i0_359 : xIns xg 0 359 = some (.iload_n 3) := by decide +kernel
theorem i0_360 : xIns xg 0 360 = some (.iconst 2) := by decide +kernel
theorem i0_361 : xIns xg 0 361 = some (.iadd) := by decide +kernel
theorem i0_362 : xIns xg 0 362 = some (.iaload) := by decide +kernel
theorem i0_363 : xIns xg 0 363 = some (.aload_n 0) := by decide +kernel
theorem i0_364 : xIns xg 0 364 = some (.iload_n 3) := by decide +kernel
theorem i0_365 : xIns xg 0 365 = some (.iconst 3) := by decide +kernel
theorem i0_366 : xIns xg 0 366 = some (.iadd) := by decide +kernel
theorem i0_367 : xIns xg 0 367 = some (.iaload) := by decide +kernel
theorem i0_368 : xIns xg 0 368 = some (.invokevirtual 41) := by decide +kernel
theorem i0_371 : xIns xg 0 371 = some (.pop) := by decide +kernel
theorem i0_372 : xIns xg 0 372 = some (.aload_n 2) := by decide +kernel
theorem i0_373 : xIns xg 0 373 = some (.aload_n 0) := by decide +kernel
theorem i0_374 : xIns xg 0 374 = some (.iload_n 3) := by decide +kernel
theorem i0_375 : xIns xg 0 375 = some (.iconst 1) := by decide +kernel
theorem i0_376 : xIns xg 0 376 = some (.iadd) := by decide +kernel
theorem i0_377 : xIns xg 0 377 = some (.iaload) := by decide +kernel
theorem i0_378 : xIns xg 0 378 = some (.aload_n 0) := by decide +kernel
theorem i0_379 : xIns xg 0 379 = some (.iload_n 3) := by decide +kernel
theorem i0_380 : xIns xg 0 380 = some (.iconst 2) := by decide +kernel
theorem i0_381 : xIns xg 0 381 = some (.iadd) := by decide +kernel
theorem i0_382 : xIns xg 0 382 = some (.iaload) := by decide +kernel
theorem i0_383 : xIns xg 0 383 = some (.aload_n 0) := by decide +kernel
theorem i0_384 : xIns xg 0 384 = some (.iload_n 3) := by decide +kernel
theorem i0_385 : xIns xg 0 385 = some (.iconst 3) := by decide +kernel
theorem i0_386 : xIns xg 0 386 = some (.iadd) := by decide +kernel
theorem i0_387 : xIns xg 0 387 = some (.iaload) := by decide +kernel
theorem i0_388 : xIns xg 0 388 = some (.invokevirtual 44) := by decide +kernel
theorem i0_391 : xIns xg 0 391 = some (.pop) := by decide +kernel
theorem i0_392 : xIns xg 0 392 = some (.goto 829) := by decide +kernel
theorem i0_395 : xIns xg 0 395 = some (.aload_n 1) := by decide +kernel
theorem i0_396 : xIns xg 0 396 = some (.aload_n 0) := by decide +kernel
theorem i0_397 : xIns xg 0 397 = some (.iload_n 3) := by decide +kernel
theorem i0_398 : xIns xg 0 398 = some (.iconst 1) := by decide +kernel
theorem i0_399 : xIns xg 0 399 = some (.iadd) := by decide +kernel
theorem i0_400 : xIns xg 0 400 = some (.iaload) := by decide +kernel
theorem i0_401 : xIns xg 0 401 = some (.aload_n 0) := by decide +kernel
theorem i0_402 : xIns xg 0 402 = some (.iload_n 3) := by decide +kernel
theorem i0_403 : xIns xg 0 403 = some (.iconst 2) := by decide +kernel
theorem i0_404 : xIns xg 0 404 = some (.iadd) := by decide +kernel
theorem i0_405 : xIns xg 0 405 = some (.iaload) := by decide +kernel
theorem i0_406 : xIns xg 0 406 = some (.aload_n 0) := by decide +kernel
theorem i0_407 : xIns xg 0 407 = some (.iload_n 3) := by decide +kernel
theorem i0_408 : xIns xg 0 408 = some (.iconst 3) := by decide +kernel
theorem i0_409 : xIns xg 0 409 = some (.iadd) := by decide +kernel
theorem i0_410 : xIns xg 0 410 = some (.iaload) := by decide +kernel
theorem i0_411 : xIns xg 0 411 = some (.invokevirtual 45) := by decide +kernel
theorem i0_414 : xIns xg 0 414 = some (.pop) := by decide +kernel
theorem i0_415 : xIns xg 0 415 = some (.aload_n 2) := by decide +kernel
theorem i0_416 : xIns xg 0 416 = some (.aload_n 0) := by decide +kernel
theorem i0_417 : xIns xg 0 417 = some (.iload_n 3) := by decide +kernel
theorem i0_418 : xIns xg 0 418 = some (.iconst 1) := by decide +kernel
theorem i0_419 : xIns xg 0 419 = some (.iadd) := by decide +kernel
theorem i0_420 : xIns xg 0 420 = some (.iaload) := by decide +kernel
theorem i0_421 : xIns xg 0 421 = some (.aload_n 0) := by decide +kernel
theorem i0_422 : xIns xg 0 422 = some (.iload_n 3) := by decide +kernel
theorem i0_423 : xIns xg 0 423 = some (.iconst 2) := by decide +kernel
theorem i0_424 : xIns xg 0 424 = some (.iadd) := by decide +kernel
theorem i0_425 : xIns xg 0 425 = some (.iaload) := by decide +kernel
theorem i0_426 : xIns xg 0 426 = some (.aload_n 0) := by decide +kernel
theorem i0_427 : xIns xg 0 427 = some (.iload_n 3) := by decide +kernel
theorem i0_428 : xIns xg 0 428 = some (.iconst 3) := by decide +kernel
theorem i0_429 : xIns xg 0 429 = some (.iadd) := by decide +kernel
theorem i0_430 : xIns xg 0 430 = some (.iaload) := by decide +kernel
theorem i0_431 : xIns xg 0 431 = some (.invokevirtual 48) := by decide +kernel
theorem i0_434 : xIns xg 0 434 = some (.pop) := by decide +kernel
theorem i0_435 : xIns xg 0 435 = some (.goto 786) := by decide +kernel
theorem i0_438 : xIns xg 0 438 = some (.aload_n 1) := by decide +kernel
theorem i0_439 : xIns xg 0 439 = some (.aload_n 0) := by decide +kernel
theorem i0_440 : xIns xg 0 440 = some (.iload_n 3) := by decide +kernel
theorem i0_441 : xIns xg 0 441 = some (.iconst 1) := by decide +kernel
theorem i0_442 : xIns xg 0 442 = some (.iadd) := by decide +kernel
theorem i0_443 : xIns xg 0 443 = some (.iaload) := by decide +kernel
theorem i0_444 : xIns xg 0 444 = some (.aload_n 0) := by decide +kernel
theorem i0_445 : xIns xg 0 445 = some (.iload_n 3) := by decide +kernel
theorem i0_446 : xIns xg 0 446 = some (.iconst 2) := by decide +kernel
theorem i0_447 : xIns xg 0 447 = some (.iadd) := by decide +kernel
theorem i0_448 : xIns xg 0 448 = some (.iaload) := by decide +kernel
theorem i0_449 : xIns xg 0 449 = some (.invokevirtual 49) := by decide +kernel
theorem i0_452 : xIns xg 0 452 = some (.pop) := by decide +kernel
theorem i0_453 : xIns xg 0 453 = some (.aload_n 2) := by decide +kernel
theorem i0_454 : xIns xg 0 454 = some (.aload_n 0) := by decide +kernel
theorem i0_455 : xIns xg 0 455 = some (.iload_n 3) := by decide +kernel
theorem i0_456 : xIns xg 0 456 = some (.iconst 1) := by decide +kernel
theorem i0_457 : xIns xg 0 457 = some (.iadd) := by decide +kernel
theorem i0_458 : xIns xg 0 458 = some (.iaload) := by decide +kernel
theorem i0_459 : xIns xg 0 459 = some (.aload_n 0) := by decide +kernel
theorem i0_460 : xIns xg 0 460 = some (.iload_n 3) := by decide +kernel
theorem i0_461 : xIns xg 0 461 = some (.iconst 2) := by decide +kernel
theorem i0_462 : xIns xg 0 462 = some (.iadd) := by decide +kernel
theorem i0_463 : xIns xg 0 463 = some (.iaload) := by decide +kernel
theorem i0_464 : xIns xg 0 464 = some (.invokevirtual 53) := by decide +kernel
theorem i0_467 : xIns xg 0 467 = some (.pop) := by decide +kernel
theorem i0_468 : xIns xg 0 468 = some (.goto 753) := by decide +kernel
theorem i0_471 : xIns xg 0 471 = some (.aload_n 1) := by decide +kernel
theorem i0_472 : xIns xg 0 472 = some (.aload_n 0) := by decide +kernel
theorem i0_473 : xIns xg 0 473 = some (.iload_n 3) := by decide +kernel
theorem i0_474 : xIns xg 0 474 = some (.iconst 1) := by decide +kernel
theorem i0_475 : xIns xg 0 475 = some (.iadd) := by decide +kernel
theorem i0_476 : xIns xg 0 476 = some (.iaload) := by decide +kernel
theorem i0_477 : xIns xg 0 477 = some (.aload_n 0) := by decide +kernel
theorem i0_478 : xIns xg 0 478 = some (.iload_n 3) := by decide +kernel
theorem i0_479 : xIns xg 0 479 = some (.iconst 2) := by decide +kernel
theorem i0_480 : xIns xg 0 480 = some (.iadd) := by decide +kernel
theorem i0_481 : xIns xg 0 481 = some (.iaload) := by decide +kernel
theorem i0_482 : xIns xg 0 482 = some (.invokevirtual 54) := by decide +kernel
theorem i0_485 : xIns xg 0 485 = some (.pop) := by decide +kernel
theorem i0_486 : xIns xg 0 486 = some (.aload_n 2) := by decide +kernel
theorem i0_487 : xIns xg 0 487 = some (.aload_n 0) := by decide +kernel
theorem i0_488 : xIns xg 0 488 = some (.iload_n 3) := by decide +kernel
theorem i0_489 : xIns xg 0 489 = some (.iconst 1) := by decide +kernel
theorem i0_490 : xIns xg 0 490 = some (.iadd) := by decide +kernel
theorem i0_491 : xIns xg 0 491 = some (.iaload) := by decide +kernel
theorem i0_492 : xIns xg 0 492 = some (.aload_n 0) := by decide +kernel
theorem i0_493 : xIns xg 0 493 = some (.iload_n 3) := by decide +kernel
theorem i0_494 : xIns xg 0 494 = some (.iconst 2) := by decide +kernel
theorem i0_495 : xIns xg 0 495 = some (.iadd) := by decide +kernel
theorem i0_496 : xIns xg 0 496 = some (.iaload) := by decide +kernel
theorem i0_497 : xIns xg 0 497 = some (.invokevirtual 57) := by decide +kernel
theorem i0_500 : xIns xg 0 500 = some (.pop) := by decide +kernel
theorem i0_501 : xIns xg 0 501 = some (.goto 720) := by decide +kernel
theorem i0_504 : xIns xg 0 504 = some (.aload_n 1) := by decide +kernel
theorem i0_505 : xIns xg 0 505 = some (.aload_n 0) := by decide +kernel
theorem i0_506 : xIns xg 0 506 = some (.iload_n 3) := by decide +kernel
theorem i0_507 : xIns xg 0 507 = some (.iconst 1) := by decide +kernel
theorem i0_508 : xIns xg 0 508 = some (.iadd) := by decide +kernel
theorem i0_509 : xIns xg 0 509 = some (.iaload) := by decide +kernel
theorem i0_510 : xIns xg 0 510 = some (.aload_n 0) := by decide +kernel
theorem i0_511 : xIns xg 0 511 = some (.iload_n 3) := by decide +kernel
theorem i0_512 : xIns xg 0 512 = some (.iconst 2) := by decide +kernel
theorem i0_513 : xIns xg 0 513 = some (.iadd) := by decide +kernel
theorem i0_514 : xIns xg 0 514 = some (.iaload) := by decide +kernel
theorem i0_515 : xIns xg 0 515 = some (.invokevirtual 58) := by decide +kernel
theorem i0_518 : xIns xg 0 518 = some (.pop) := by decide +kernel
theorem i0_519 : xIns xg 0 519 = some (.aload_n 2) := by decide +kernel
theorem i0_520 : xIns xg 0 520 = some (.aload_n 0) := by decide +kernel
theorem i0_521 : xIns xg 0 521 = some (.iload_n 3) := by decide +kernel
theorem i0_522 : xIns xg 0 522 = some (.iconst 1) := by decide +kernel
theorem i0_523 : xIns xg 0 523 = some (.iadd) := by decide +kernel
theorem i0_524 : xIns xg 0 524 = some (.iaload) := by decide +kernel
theorem i0_525 : xIns xg 0 525 = some (.aload_n 0) := by decide +kernel
theorem i0_526 : xIns xg 0 526 = some (.iload_n 3) := by decide +kernel
theorem i0_527 : xIns xg 0 527 = some (.iconst 2) := by decide +kernel
theorem i0_528 : xIns xg 0 528 = some (.iadd) := by decide +kernel
theorem i0_529 : xIns xg 0 529 = some (.iaload) := by decide +kernel
theorem i0_530 : xIns xg 0 530 = some (.invokevirtual 61) := by decide +kernel
theorem i0_533 : xIns xg 0 533 = some (.pop) := by decide +kernel
theorem i0_534 : xIns xg 0 534 = some (.goto 687) := by decide +kernel
theorem i0_537 : xIns xg 0 537 = some (.aload_n 1) := by decide +kernel
theorem i0_538 : xIns xg 0 538 = some (.aload_n 0) := by decide +kernel
theorem i0_539 : xIns xg 0 539 = some (.iload_n 3) := by decide +kernel
theorem i0_540 : xIns xg 0 540 = some (.iconst 1) := by decide +kernel
theorem i0_541 : xIns xg 0 541 = some (.iadd) := by decide +kernel
theorem i0_542 : xIns xg 0 542 = some (.iaload) := by decide +kernel
theorem i0_543 : xIns xg 0 543 = some (.aload_n 0) := by decide +kernel
theorem i0_544 : xIns xg 0 544 = some (.iload_n 3) := by decide +kernel
theorem i0_545 : xIns xg 0 545 = some (.iconst 2) := by decide +kernel
theorem i0_546 : xIns xg 0 546 = some (.iadd) := by decide +kernel
theorem i0_547 : xIns xg 0 547 = some (.iaload) := by decide +kernel
theorem i0_548 : xIns xg 0 548 = some (.invokevirtual 62) := by decide +kernel
theorem i0_551 : xIns xg 0 551 = some (.pop2) := by decide +kernel
theorem i0_552 : xIns xg 0 552 = some (.aload_n 2) := by decide +kernel
theorem i0_553 : xIns xg 0 553 = some (.aload_n 0) := by decide +kernel
theorem i0_554 : xIns xg 0 554 = some (.iload_n 3) := by decide +kernel
theorem i0_555 : xIns xg 0 555 = some (.iconst 1) := by decide +kernel
theorem i0_556 : xIns xg 0 556 = some (.iadd) := by decide +kernel
theorem i0_557 : xIns xg 0 557 = some (.iaload) := by decide +kernel
theorem i0_558 : xIns xg 0 558 = some (.aload_n 0) := by decide +kernel
theorem i0_559 : xIns xg 0 559 = some (.iload_n 3) := by decide +kernel
theorem i0_560 : xIns xg 0 560 = some (.iconst 2) := by decide +kernel
theorem i0_561 : xIns xg 0 561 = some (.iadd) := by decide +kernel
theorem i0_562 : xIns xg 0 562 = some (.iaload) := by decide +kernel
theorem i0_563 : xIns xg 0 563 = some (.invokevirtual 65) := by decide +kernel
theorem i0_566 : xIns xg 0 566 = some (.pop2) := by decide +kernel
theorem i0_567 : xIns xg 0 567 = some (.goto 654) := by decide +kernel
theorem i0_570 : xIns xg 0 570 = some (.aload_n 1) := by decide +kernel
theorem i0_571 : xIns xg 0 571 = some (.aload_n 0) := by decide +kernel
theorem i0_572 : xIns xg 0 572 = some (.iload_n 3) := by decide +kernel
theorem i0_573 : xIns xg 0 573 = some (.iconst 1) := by decide +kernel
theorem i0_574 : xIns xg 0 574 = some (.iadd) := by decide +kernel
theorem i0_575 : xIns xg 0 575 = some (.iaload) := by decide +kernel
theorem i0_576 : xIns xg 0 576 = some (.aload_n 0) := by decide +kernel
theorem i0_577 : xIns xg 0 577 = some (.iload_n 3) := by decide +kernel
theorem i0_578 : xIns xg 0 578 = some (.iconst 2) := by decide +kernel
theorem i0_579 : xIns xg 0 579 = some (.iadd) := by decide +kernel
theorem i0_580 : xIns xg 0 580 = some (.iaload) := by decide +kernel
theorem i0_581 : xIns xg 0 581 = some (.invokevirtual 66) := by decide +kernel
theorem i0_584 : xIns xg 0 584 = some (.pop) := by decide +kernel
theorem i0_585 : xIns xg 0 585 = some (.aload_n 2) := by decide +kernel
theorem i0_586 : xIns xg 0 586 = some (.aload_n 0) := by decide +kernel
theorem i0_587 : xIns xg 0 587 = some (.iload_n 3) := by decide +kernel
theorem i0_588 : xIns xg 0 588 = some (.iconst 1) := by decide +kernel
theorem i0_589 : xIns xg 0 589 = some (.iadd) := by decide +kernel
theorem i0_590 : xIns xg 0 590 = some (.iaload) := by decide +kernel
theorem i0_591 : xIns xg 0 591 = some (.aload_n 0) := by decide +kernel
theorem i0_592 : xIns xg 0 592 = some (.iload_n 3) := by decide +kernel
theorem i0_593 : xIns xg 0 593 = some (.iconst 2) := by decide +kernel
theorem i0_594 : xIns xg 0 594 = some (.iadd) := by decide +kernel
theorem i0_595 : xIns xg 0 595 = some (.iaload) := by decide +kernel
theorem i0_596 : xIns xg 0 596 = some (.invokevirtual 69) := by decide +kernel
theorem i0_599 : xIns xg 0 599 = some (.pop) := by decide +kernel
theorem i0_600 : xIns xg 0 600 = some (.goto 621) := by decide +kernel
theorem i0_603 : xIns xg 0 603 = some (.aload_n 1) := by decide +kernel
theorem i0_604 : xIns xg 0 604 = some (.aload_n 0) := by decide +kernel
theorem i0_605 : xIns xg 0 605 = some (.iload_n 3) := by decide +kernel
theorem i0_606 : xIns xg 0 606 = some (.iconst 1) := by decide +kernel
theorem i0_607 : xIns xg 0 607 = some (.iadd) := by decide +kernel
theorem i0_608 : xIns xg 0 608 = some (.iaload) := by decide +kernel
theorem i0_609 : xIns xg 0 609 = some (.invokevirtual 70) := by decide +kernel
theorem i0_612 : xIns xg 0 612 = some (.pop) := by decide +kernel
theorem i0_613 : xIns xg 0 613 = some (.aload_n 2) := by decide +kernel
theorem i0_614 : xIns xg 0 614 = some (.aload_n 0) := by decide +kernel
theorem i0_615 : xIns xg 0 615 = some (.iload_n 3) := by decide +kernel
theorem i0_616 : xIns xg 0 616 = some (.iconst 1) := by decide +kernel
theorem i0_617 : xIns xg 0 617 = some (.iadd) := by decide +kernel
theorem i0_618 : xIns xg 0 618 = some (.iaload) := by decide +kernel
theorem i0_619 : xIns xg 0 619 = some (.invokevirtual 73) := by decide +kernel
theorem i0_622 : xIns xg 0 622 = some (.pop) := by decide +kernel
theorem i0_623 : xIns xg 0 623 = some (.goto 598) := by decide +kernel
theorem i0_626 : xIns xg 0 626 = some (.aload_n 1) := by decide +kernel
theorem i0_627 : xIns xg 0 627 = some (.invokevirtual 74) := by decide +kernel
theorem i0_630 : xIns xg 0 630 = some (.pop) := by decide +kernel
theorem i0_631 : xIns xg 0 631 = some (.aload_n 2) := by decide +kernel
theorem i0_632 : xIns xg 0 632 = some (.invokevirtual 78) := by decide +kernel
theorem i0_635 : xIns xg 0 635 = some (.pop) := by decide +kernel
theorem i0_636 : xIns xg 0 636 = some (.goto 585) := by decide +kernel
theorem i0_639 : xIns xg 0 639 = some (.aload_n 1) := by decide +kernel
theorem i0_640 : xIns xg 0 640 = some (.aload_n 0) := by decide +kernel
theorem i0_641 : xIns xg 0 641 = some (.iload_n 3) := by decide +kernel
theorem i0_642 : xIns xg 0 642 = some (.iconst 1) := by decide +kernel
theorem i0_643 : xIns xg 0 643 = some (.iadd) := by decide +kernel
theorem i0_644 : xIns xg 0 644 = some (.iaload) := by decide +kernel
theorem i0_645 : xIns xg 0 645 = some (.aload_n 0) := by decide +kernel
theorem i0_646 : xIns xg 0 646 = some (.iload_n 3) := by decide +kernel
theorem i0_647 : xIns xg 0 647 = some (.iconst 2) := by decide +kernel
theorem i0_648 : xIns xg 0 648 = some (.iadd) := by decide +kernel
theorem i0_649 : xIns xg 0 649 = some (.iaload) := by decide +kernel
theorem i0_650 : xIns xg 0 650 = some (.invokevirtual 79) := by decide +kernel
theorem i0_653 : xIns xg 0 653 = some (.pop2) := by decide +kernel
theorem i0_654 : xIns xg 0 654 = some (.aload_n 2) := by decide +kernel
theorem i0_655 : xIns xg 0 655 = some (.aload_n 0) := by decide +kernel
theorem i0_656 : xIns xg 0 656 = some (.iload_n 3) := by decide +kernel
theorem i0_657 : xIns xg 0 657 = some (.iconst 1) := by decide +kernel
theorem i0_658 : xIns xg 0 658 = some (.iadd) := by decide +kernel
theorem i0_659 : xIns xg 0 659 = some (.iaload) := by decide +kernel
theorem i0_660 : xIns xg 0 660 = some (.aload_n 0) := by decide +kernel
theorem i0_661 : xIns xg 0 661 = some (.iload_n 3) := by decide +kernel
theorem i0_662 : xIns xg 0 662 = some (.iconst 2) := by decide +kernel
theorem i0_663 : xIns xg 0 663 = some (.iadd) := by decide +kernel
theorem i0_664 : xIns xg 0 664 = some (.iaload) := by decide +kernel
theorem i0_665 : xIns xg 0 665 = some (.invokevirtual 82) := by decide +kernel
theorem i0_668 : xIns xg 0 668 = some (.pop2) := by decide +kernel
theorem i0_669 : xIns xg 0 669 = some (.goto 552) := by decide +kernel
theorem i0_672 : xIns xg 0 672 = some (.aload_n 1) := by decide +kernel
theorem i0_673 : xIns xg 0 673 = some (.aload_n 0) := by decide +kernel
theorem i0_674 : xIns xg 0 674 = some (.iload_n 3) := by decide +kernel
theorem i0_675 : xIns xg 0 675 = some (.iconst 1) := by decide +kernel
theorem i0_676 : xIns xg 0 676 = some (.iadd) := by decide +kernel
theorem i0_677 : xIns xg 0 677 = some (.iaload) := by decide +kernel
theorem i0_678 : xIns xg 0 678 = some (.aload_n 0) := by decide +kernel
theorem i0_679 : xIns xg 0 679 = some (.iload_n 3) := by decide +kernel
theorem i0_680 : xIns xg 0 680 = some (.iconst 2) := by decide +kernel
theorem i0_681 : xIns xg 0 681 = some (.iadd) := by decide +kernel
theorem i0_682 : xIns xg 0 682 = some (.iaload) := by decide +kernel
theorem i0_683 : xIns xg 0 683 = some (.i2l) := by decide +kernel
theorem i0_684 : xIns xg 0 684 = some (.bipush 32) := by decide +kernel
theorem i0_686 : xIns xg 0 686 = some (.lshl) := by decide +kernel
theorem i0_687 : xIns xg 0 687 = some (.aload_n 0) := by decide +kernel
theorem i0_688 : xIns xg 0 688 = some (.iload_n 3) := by decide +kernel
theorem i0_689 : xIns xg 0 689 = some (.iconst 3) := by decide +kernel
theorem i0_690 : xIns xg 0 690 = some (.iadd) := by decide +kernel
theorem i0_691 : xIns xg 0 691 = some (.iaload) := by decide +kernel
theorem i0_692 : xIns xg 0 692 = some (.i2l) := by decide +kernel
theorem i0_693 : xIns xg 0 693 = some (.ldc2_w 83) := by decide +kernel
theorem c0_83 : xCon xg 0 83 = some (vl (4294967295)) := by decide +kernel
theorem i0_696 : xIns xg 0 696 = some (.land) := by decide +kernel
theorem i0_697 : xIns xg 0 697 = some (.lor) := by decide +kernel
theorem i0_698 : xIns xg 0 698 = some (.aload_n 0) := by decide +kernel
theorem i0_699 : xIns xg 0 699 = some (.iload_n 3) := by decide +kernel
theorem i0_700 : xIns xg 0 700 = some (.iconst 4) := by decide +kernel
theorem i0_701 : xIns xg 0 701 = some (.iadd) := by decide +kernel
theorem i0_702 : xIns xg 0 702 = some (.iaload) := by decide +kernel
theorem i0_703 : xIns xg 0 703 = some (.invokevirtual 85) := by decide +kernel
theorem i0_706 : xIns xg 0 706 = some (.pop) := by decide +kernel
theorem i0_707 : xIns xg 0 707 = some (.aload_n 2) := by decide +kernel
theorem i0_708 : xIns xg 0 708 = some (.aload_n 0) := by decide +kernel
theorem i0_709 : xIns xg 0 709 = some (.iload_n 3) := by decide +kernel
theorem i0_710 : xIns xg 0 710 = some (.iconst 1) := by decide +kernel
theorem i0_711 : xIns xg 0 711 = some (.iadd) := by decide +kernel
theorem i0_712 : xIns xg 0 712 = some (.iaload) := by decide +kernel
theorem i0_713 : xIns xg 0 713 = some (.aload_n 0) := by decide +kernel
theorem i0_714 : xIns xg 0 714 = some (.iload_n 3) := by decide +kernel
theorem i0_715 : xIns xg 0 715 = some (.iconst 2) := by decide +kernel
theorem i0_716 : xIns xg 0 716 = some (.iadd) := by decide +kernel
theorem i0_717 : xIns xg 0 717 = some (.iaload) := by decide +kernel
theorem i0_718 : xIns xg 0 718 = some (.i2l) := by decide +kernel
theorem i0_719 : xIns xg 0 719 = some (.bipush 32) := by decide +kernel
theorem i0_721 : xIns xg 0 721 = some (.lshl) := by decide +kernel
theorem i0_722 : xIns xg 0 722 = some (.aload_n 0) := by decide +kernel
theorem i0_723 : xIns xg 0 723 = some (.iload_n 3) := by decide +kernel
theorem i0_724 : xIns xg 0 724 = some (.iconst 3) := by decide +kernel
theorem i0_725 : xIns xg 0 725 = some (.iadd) := by decide +kernel
theorem i0_726 : xIns xg 0 726 = some (.iaload) := by decide +kernel
theorem i0_727 : xIns xg 0 727 = some (.i2l) := by decide +kernel
theorem i0_728 : xIns xg 0 728 = some (.ldc2_w 83) := by decide +kernel
theorem i0_731 : xIns xg 0 731 = some (.land) := by decide +kernel
theorem i0_732 : xIns xg 0 732 = some (.lor) := by decide +kernel
theorem i0_733 : xIns xg 0 733 = some (.aload_n 0) := by decide +kernel
theorem i0_734 : xIns xg 0 734 = some (.iload_n 3) := by decide +kernel
theorem i0_735 : xIns xg 0 735 = some (.iconst 4) := by decide +kernel
theorem i0_736 : xIns xg 0 736 = some (.iadd) := by decide +kernel
theorem i0_737 : xIns xg 0 737 = some (.iaload) := by decide +kernel
theorem i0_738 : xIns xg 0 738 = some (.invokevirtual 89) := by decide +kernel
theorem i0_741 : xIns xg 0 741 = some (.pop) := by decide +kernel
theorem i0_742 : xIns xg 0 742 = some (.goto 479) := by decide +kernel
theorem i0_745 : xIns xg 0 745 = some (.aload_n 1) := by decide +kernel
theorem i0_746 : xIns xg 0 746 = some (.aload_n 0) := by decide +kernel
theorem i0_747 : xIns xg 0 747 = some (.iload_n 3) := by decide +kernel
theorem i0_748 : xIns xg 0 748 = some (.iconst 1) := by decide +kernel
theorem i0_749 : xIns xg 0 749 = some (.iadd) := by decide +kernel
theorem i0_750 : xIns xg 0 750 = some (.iaload) := by decide +kernel
theorem i0_751 : xIns xg 0 751 = some (.aload_n 0) := by decide +kernel
theorem i0_752 : xIns xg 0 752 = some (.iload_n 3) := by decide +kernel
theorem i0_753 : xIns xg 0 753 = some (.iconst 2) := by decide +kernel
theorem i0_754 : xIns xg 0 754 = some (.iadd) := by decide +kernel
theorem i0_755 : xIns xg 0 755 = some (.iaload) := by decide +kernel
theorem i0_756 : xIns xg 0 756 = some (.aload_n 0) := by decide +kernel
theorem i0_757 : xIns xg 0 757 = some (.iload_n 3) := by decide +kernel
theorem i0_758 : xIns xg 0 758 = some (.iconst 3) := by decide +kernel
theorem i0_759 : xIns xg 0 759 = some (.iadd) := by decide +kernel
theorem i0_760 : xIns xg 0 760 = some (.iaload) := by decide +kernel
theorem i0_761 : xIns xg 0 761 = some (.invokevirtual 90) := by decide +kernel
theorem i0_764 : xIns xg 0 764 = some (.pop) := by decide +kernel
theorem i0_765 : xIns xg 0 765 = some (.aload_n 2) := by decide +kernel
theorem i0_766 : xIns xg 0 766 = some (.aload_n 0) := by decide +kernel
theorem i0_767 : xIns xg 0 767 = some (.iload_n 3) := by decide +kernel
theorem i0_768 : xIns xg 0 768 = some (.iconst 1) := by decide +kernel
theorem i0_769 : xIns xg 0 769 = some (.iadd) := by decide +kernel
theorem i0_770 : xIns xg 0 770 = some (.iaload) := by decide +kernel
theorem i0_771 : xIns xg 0 771 = some (.aload_n 0) := by decide +kernel
theorem i0_772 : xIns xg 0 772 = some (.iload_n 3) := by decide +kernel
theorem i0_773 : xIns xg 0 773 = some (.iconst 2) := by decide +kernel
theorem i0_774 : xIns xg 0 774 = some (.iadd) := by decide +kernel
theorem i0_775 : xIns xg 0 775 = some (.iaload) := by decide +kernel
theorem i0_776 : xIns xg 0 776 = some (.aload_n 0) := by decide +kernel
theorem i0_777 : xIns xg 0 777 = some (.iload_n 3) := by decide +kernel
theorem i0_778 : xIns xg 0 778 = some (.iconst 3) := by decide +kernel
theorem i0_779 : xIns xg 0 779 = some (.iadd) := by decide +kernel
theorem i0_780 : xIns xg 0 780 = some (.iaload) := by decide +kernel
theorem i0_781 : xIns xg 0 781 = some (.invokevirtual 93) := by decide +kernel
theorem i0_784 : xIns xg 0 784 = some (.pop) := by decide +kernel
theorem i0_785 : xIns xg 0 785 = some (.goto 436) := by decide +kernel
theorem i0_788 : xIns xg 0 788 = some (.aload_n 1) := by decide +kernel
theorem i0_789 : xIns xg 0 789 = some (.aload_n 0) := by decide +kernel
theorem i0_790 : xIns xg 0 790 = some (.iload_n 3) := by decide +kernel
theorem i0_791 : xIns xg 0 791 = some (.iconst 1) := by decide +kernel
theorem i0_792 : xIns xg 0 792 = some (.iadd) := by decide +kernel
theorem i0_793 : xIns xg 0 793 = some (.iaload) := by decide +kernel
theorem i0_794 : xIns xg 0 794 = some (.invokevirtual 94) := by decide +kernel
theorem i0_797 : xIns xg 0 797 = some (.pop) := by decide +kernel
theorem i0_798 : xIns xg 0 798 = some (.aload_n 2) := by decide +kernel
theorem i0_799 : xIns xg 0 799 = some (.aload_n 0) := by decide +kernel
theorem i0_800 : xIns xg 0 800 = some (.iload_n 3) := by decide +kernel
theorem i0_801 : xIns xg 0 801 = some (.iconst 1) := by decide +kernel
theorem i0_802 : xIns xg 0 802 = some (.iadd) := by decide +kernel
theorem i0_803 : xIns xg 0 803 = some (.iaload) := by decide +kernel
theorem i0_804 : xIns xg 0 804 = some (.invokevirtual 97) := by decide +kernel
theorem i0_807 : xIns xg 0 807 = some (.pop) := by decide +kernel
theorem i0_808 : xIns xg 0 808 = some (.goto 413) := by decide +kernel
theorem i0_811 : xIns xg 0 811 = some (.aload_n 1) := by decide +kernel
theorem i0_812 : xIns xg 0 812 = some (.aload_n 0) := by decide +kernel
theorem i0_813 : xIns xg 0 813 = some (.iload_n 3) := by decide +kernel
theorem i0_814 : xIns xg 0 814 = some (.iconst 1) := by decide +kernel
theorem i0_815 : xIns xg 0 815 = some (.iadd) := by decide +kernel
theorem i0_816 : xIns xg 0 816 = some (.iaload) := by decide +kernel
theorem i0_817 : xIns xg 0 817 = some (.aload_n 0) := by decide +kernel
theorem i0_818 : xIns xg 0 818 = some (.iload_n 3) := by decide +kernel
theorem i0_819 : xIns xg 0 819 = some (.iconst 2) := by decide +kernel
theorem i0_820 : xIns xg 0 820 = some (.iadd) := by decide +kernel
theorem i0_821 : xIns xg 0 821 = some (.iaload) := by decide +kernel
theorem i0_822 : xIns xg 0 822 = some (.aload_n 0) := by decide +kernel
theorem i0_823 : xIns xg 0 823 = some (.iload_n 3) := by decide +kernel
theorem i0_824 : xIns xg 0 824 = some (.iconst 3) := by decide +kernel
theorem i0_825 : xIns xg 0 825 = some (.iadd) := by decide +kernel
theorem i0_826 : xIns xg 0 826 = some (.iaload) := by decide +kernel
theorem i0_827 : xIns xg 0 827 = some (.invokevirtual 98) := by decide +kernel
theorem i0_830 : xIns xg 0 830 = some (.pop) := by decide +kernel
theorem i0_831 : xIns xg 0 831 = some (.aload_n 2) := by decide +kernel
theorem i0_832 : xIns xg 0 832 = some (.aload_n 0) := by decide +kernel
theorem i0_833 : xIns xg 0 833 = some (.iload_n 3) := by decide +kernel
theorem i0_834 : xIns xg 0 834 = some (.iconst 1) := by decide +kernel
theorem i0_835 : xIns xg 0 835 = some (.iadd) := by decide +kernel
theorem i0_836 : xIns xg 0 836 = some (.iaload) := by decide +kernel
theorem i0_837 : xIns xg 0 837 = some (.aload_n 0) := by decide +kernel
theorem i0_838 : xIns xg 0 838 = some (.iload_n 3) := by decide +kernel
theorem i0_839 : xIns xg 0 839 = some (.iconst 2) := by decide +kernel
theorem i0_840 : xIns xg 0 840 = some (.iadd) := by decide +kernel
theorem i0_841 : xIns xg 0 841 = some (.iaload) := by decide +kernel
theorem i0_842 : xIns xg 0 842 = some (.aload_n 0) := by decide +kernel
theorem i0_843 : xIns xg 0 843 = some (.iload_n 3) := by decide +kernel
theorem i0_844 : xIns xg 0 844 = some (.iconst 3) := by decide +kernel
theorem i0_845 : xIns xg 0 845 = some (.iadd) := by decide +kernel
theorem i0_846 : xIns xg 0 846 = some (.iaload) := by decide +kernel
theorem i0_847 : xIns xg 0 847 = some (.invokevirtual 101) := by decide +kernel
theorem i0_850 : xIns xg 0 850 = some (.pop) := by decide +kernel
theorem i0_851 : xIns xg 0 851 = some (.goto 370) := by decide +kernel
theorem i0_854 : xIns xg 0 854 = some (.aload_n 1) := by decide +kernel
theorem i0_855 : xIns xg 0 855 = some (.aload_n 0) := by decide +kernel
theorem i0_856 : xIns xg 0 856 = some (.iload_n 3) := by decide +kernel
theorem i0_857 : xIns xg 0 857 = some (.iconst 1) := by decide +kernel
theorem i0_858 : xIns xg 0 858 = some (.iadd) := by decide +kernel
theorem i0_859 : xIns xg 0 859 = some (.iaload) := by decide +kernel
theorem i0_860 : xIns xg 0 860 = some (.aload_n 0) := by decide +kernel
theorem i0_861 : xIns xg 0 861 = some (.iload_n 3) := by decide +kernel
theorem i0_862 : xIns xg 0 862 = some (.iconst 2) := by decide +kernel
theorem i0_863 : xIns xg 0 863 = some (.iadd) := by decide +kernel
theorem i0_864 : xIns xg 0 864 = some (.iaload) := by decide +kernel
theorem i0_865 : xIns xg 0 865 = some (.aload_n 0) := by decide +kernel
theorem i0_866 : xIns xg 0 866 = some (.iload_n 3) := by decide +kernel
theorem i0_867 : xIns xg 0 867 = some (.iconst 3) := by decide +kernel
theorem i0_868 : xIns xg 0 868 = some (.iadd) := by decide +kernel
theorem i0_869 : xIns xg 0 869 = some (.iaload) := by decide +kernel
theorem i0_870 : xIns xg 0 870 = some (.invokevirtual 102) := by decide +kernel
theorem i0_873 : xIns xg 0 873 = some (.pop) := by decide +kernel
theorem i0_874 : xIns xg 0 874 = some (.aload_n 2) := by decide +kernel
theorem i0_875 : xIns xg 0 875 = some (.aload_n 0) := by decide +kernel
theorem i0_876 : xIns xg 0 876 = some (.iload_n 3) := by decide +kernel
theorem i0_877 : xIns xg 0 877 = some (.iconst 1) := by decide +kernel
theorem i0_878 : xIns xg 0 878 = some (.iadd) := by decide +kernel
theorem i0_879 : xIns xg 0 879 = some (.iaload) := by decide +kernel
theorem i0_880 : xIns xg 0 880 = some (.aload_n 0) := by decide +kernel
theorem i0_881 : xIns xg 0 881 = some (.iload_n 3) := by decide +kernel
theorem i0_882 : xIns xg 0 882 = some (.iconst 2) := by decide +kernel
theorem i0_883 : xIns xg 0 883 = some (.iadd) := by decide +kernel
theorem i0_884 : xIns xg 0 884 = some (.iaload) := by decide +kernel
theorem i0_885 : xIns xg 0 885 = some (.aload_n 0) := by decide +kernel
theorem i0_886 : xIns xg 0 886 = some (.iload_n 3) := by decide +kernel
theorem i0_887 : xIns xg 0 887 = some (.iconst 3) := by decide +kernel
theorem i0_888 : xIns xg 0 888 = some (.iadd) := by decide +kernel
theorem i0_889 : xIns xg 0 889 = some (.iaload) := by decide +kernel
theorem i0_890 : xIns xg 0 890 = some (.invokevirtual 105) := by decide +kernel
theorem i0_893 : xIns xg 0 893 = some (.pop) := by decide +kernel
theorem i0_894 : xIns xg 0 894 = some (.goto 327) := by decide +kernel
theorem i0_897 : xIns xg 0 897 = some (.aload_n 1) := by decide +kernel
theorem i0_898 : xIns xg 0 898 = some (.invokevirtual 106) := by decide +kernel
theorem i0_901 : xIns xg 0 901 = some (.pop) := by decide +kernel
theorem i0_902 : xIns xg 0 902 = some (.aload_n 2) := by decide +kernel
theorem i0_903 : xIns xg 0 903 = some (.invokevirtual 109) := by decide +kernel
theorem i0_906 : xIns xg 0 906 = some (.pop) := by decide +kernel
theorem i0_907 : xIns xg 0 907 = some (.goto 314) := by decide +kernel
theorem i0_910 : xIns xg 0 910 = some (.aload_n 1) := by decide +kernel
theorem i0_911 : xIns xg 0 911 = some (.invokevirtual 110) := by decide +kernel
theorem i0_914 : xIns xg 0 914 = some (.pop) := by decide +kernel
theorem i0_915 : xIns xg 0 915 = some (.aload_n 2) := by decide +kernel
theorem i0_916 : xIns xg 0 916 = some (.invokevirtual 113) := by decide +kernel
theorem i0_919 : xIns xg 0 919 = some (.pop) := by decide +kernel
theorem i0_920 : xIns xg 0 920 = some (.goto 301) := by decide +kernel
theorem i0_923 : xIns xg 0 923 = some (.aload_n 1) := by decide +kernel
theorem i0_924 : xIns xg 0 924 = some (.aload_n 0) := by decide +kernel
theorem i0_925 : xIns xg 0 925 = some (.iload_n 3) := by decide +kernel
theorem i0_926 : xIns xg 0 926 = some (.iconst 1) := by decide +kernel
theorem i0_927 : xIns xg 0 927 = some (.iadd) := by decide +kernel
theorem i0_928 : xIns xg 0 928 = some (.iaload) := by decide +kernel
theorem i0_929 : xIns xg 0 929 = some (.invokevirtual 114) := by decide +kernel
theorem i0_932 : xIns xg 0 932 = some (.pop) := by decide +kernel
theorem i0_933 : xIns xg 0 933 = some (.aload_n 2) := by decide +kernel
theorem i0_934 : xIns xg 0 934 = some (.aload_n 0) := by decide +kernel
theorem i0_935 : xIns xg 0 935 = some (.iload_n 3) := by decide +kernel
theorem i0_936 : xIns xg 0 936 = some (.iconst 1) := by decide +kernel
theorem i0_937 : xIns xg 0 937 = some (.iadd) := by decide +kernel
theorem i0_938 : xIns xg 0 938 = some (.iaload) := by decide +kernel
theorem i0_939 : xIns xg 0 939 = some (.invokevirtual 117) := by decide +kernel
theorem i0_942 : xIns xg 0 942 = some (.pop) := by decide +kernel
theorem i0_943 : xIns xg 0 943 = some (.goto 278) := by decide +kernel
theorem i0_946 : xIns xg 0 946 = some (.aload_n 1) := by decide +kernel
theorem i0_947 : xIns xg 0 947 = some (.aload_n 0) := by decide +kernel
theorem i0_948 : xIns xg 0 948 = some (.iload_n 3) := by decide +kernel
theorem i0_949 : xIns xg 0 949 = some (.iconst 1) := by decide +kernel
theorem i0_950 : xIns xg 0 950 = some (.iadd) := by decide +kernel
theorem i0_951 : xIns xg 0 951 = some (.iaload) := by decide +kernel
theorem i0_952 : xIns xg 0 952 = some (.aload_n 0) := by decide +kernel
theorem i0_953 : xIns xg 0 953 = some (.iload_n 3) := by decide +kernel
theorem i0_954 : xIns xg 0 954 = some (.iconst 2) := by decide +kernel
theorem i0_955 : xIns xg 0 955 = some (.iadd) := by decide +kernel
theorem i0_956 : xIns xg 0 956 = some (.iaload) := by decide +kernel
theorem i0_957 : xIns xg 0 957 = some (.aload_n 0) := by decide +kernel
theorem i0_958 : xIns xg 0 958 = some (.iload_n 3) := by decide +kernel
theorem i0_959 : xIns xg 0 959 = some (.iconst 3) := by decide +kernel
theorem i0_960 : xIns xg 0 960 = some (.iadd) := by decide +kernel
theorem i0_961 : xIns xg 0 961 = some (.iaload) := by decide +kernel
theorem i0_962 : xIns xg 0 962 = some (.invokevirtual 118) := by decide +kernel
theorem i0_965 : xIns xg 0 965 = some (.pop) := by decide +kernel
theorem i0_966 : xIns xg 0 966 = some (.aload_n 2) := by decide +kernel
theorem i0_967 : xIns xg 0 967 = some (.aload_n 0) := by decide +kernel
theorem i0_968 : xIns xg 0 968 = some (.iload_n 3) := by decide +kernel
theorem i0_969 : xIns xg 0 969 = some (.iconst 1) := by decide +kernel
theorem i0_970 : xIns xg 0 970 = some (.iadd) := by decide +kernel
theorem i0_971 : xIns xg 0 971 = some (.iaload) := by decide +kernel
theorem i0_972 : xIns xg 0 972 = some (.aload_n 0) := by decide +kernel
theorem i0_973 : xIns xg 0 973 = some (.iload_n 3) := by decide +kernel
theorem i0_974 : xIns xg 0 974 = some (.iconst 2) := by decide +kernel
theorem i0_975 : xIns xg 0 975 = some (.iadd) := by decide +kernel
theorem i0_976 : xIns xg 0 976 = some (.iaload) := by decide +kernel
theorem i0_977 : xIns xg 0 977 = some (.aload_n 0) := by decide +kernel
theorem i0_978 : xIns xg 0 978 = some (.iload_n 3) := by decide +kernel
theorem i0_979 : xIns xg 0 979 = some (.iconst 3) := by decide +kernel
theorem i0_980 : xIns xg 0 980 = some (.iadd) := by decide +kernel
theorem i0_981 : xIns xg 0 981 = some (.iaload) := by decide +kernel
theorem i0_982 : xIns xg 0 982 = some (.invokevirtual 121) := by decide +kernel
theorem i0_985 : xIns xg 0 985 = some (.pop) := by decide +kernel
theorem i0_986 : xIns xg 0 986 = some (.goto 235) := by decide +kernel
theorem i0_989 : xIns xg 0 989 = some (.aload_n 1) := by decide +kernel
theorem i0_990 : xIns xg 0 990 = some (.aload_n 0) := by decide +kernel
theorem i0_991 : xIns xg 0 991 = some (.iload_n 3) := by decide +kernel
theorem i0_992 : xIns xg 0 992 = some (.iconst 1) := by decide +kernel
theorem i0_993 : xIns xg 0 993 = some (.iadd) := by decide +kernel
theorem i0_994 : xIns xg 0 994 = some (.iaload) := by decide +kernel
theorem i0_995 : xIns xg 0 995 = some (.aload_n 0) := by decide +kernel
theorem i0_996 : xIns xg 0 996 = some (.iload_n 3) := by decide +kernel
theorem i0_997 : xIns xg 0 997 = some (.iconst 2) := by decide +kernel
theorem i0_998 : xIns xg 0 998 = some (.iadd) := by decide +kernel
theorem i0_999 : xIns xg 0 999 = some (.iaload) := by decide +kernel
theorem i0_1000 : xIns xg 0 1000 = some (.aload_n 0) := by decide +kernel
theorem i0_1001 : xIns xg 0 1001 = some (.iload_n 3) := by decide +kernel
theorem i0_1002 : xIns xg 0 1002 = some (.iconst 3) := by decide +kernel
theorem i0_1003 : xIns xg 0 1003 = some (.iadd) := by decide +kernel
theorem i0_1004 : xIns xg 0 1004 = some (.iaload) := by decide +kernel
theorem i0_1005 : xIns xg 0 1005 = some (.i2l) := by decide +kernel
theorem i0_1006 : xIns xg 0 1006 = some (.bipush 32) := by decide +kernel
theorem i0_1008 : xIns xg 0 1008 = some (.lshl) := by decide +kernel
theorem i0_1009 : xIns xg 0 1009 = some (.aload_n 0) := by decide +kernel
theorem i0_1010 : xIns xg 0 1010 = some (.iload_n 3) := by decide +kernel
theorem i0_1011 : xIns xg 0 1011 = some (.iconst 4) := by decide +kernel
theorem i0_1012 : xIns xg 0 1012 = some (.iadd) := by decide +kernel
theorem i0_1013 : xIns xg 0 1013 = some (.iaload) := by decide +kernel
theorem i0_1014 : xIns xg 0 1014 = some (.i2l) := by decide +kernel
theorem i0_1015 : xIns xg 0 1015 = some (.ldc2_w 83) := by decide +kernel
theorem i0_1018 : xIns xg 0 1018 = some (.land) := by decide +kernel
theorem i0_1019 : xIns xg 0 1019 = some (.lor) := by decide +kernel
theorem i0_1020 : xIns xg 0 1020 = some (.invokevirtual 122) := by decide +kernel
theorem i0_1023 : xIns xg 0 1023 = some (.pop) := by decide +kernel
theorem i0_1024 : xIns xg 0 1024 = some (.aload_n 2) := by decide +kernel
theorem i0_1025 : xIns xg 0 1025 = some (.aload_n 0) := by decide +kernel
theorem i0_1026 : xIns xg 0 1026 = some (.iload_n 3) := by decide +kernel
theorem i0_1027 : xIns xg 0 1027 = some (.iconst 1) := by decide +kernel
theorem i0_1028 : xIns xg 0 1028 = some (.iadd) := by decide +kernel
theorem i0_1029 : xIns xg 0 1029 = some (.iaload) := by decide +kernel
theorem i0_1030 : xIns xg 0 1030 = some (.aload_n 0) := by decide +kernel
theorem i0_1031 : xIns xg 0 1031 = some (.iload_n 3) := by decide +kernel
theorem i0_1032 : xIns xg 0 1032 = some (.iconst 2) := by decide +kernel
theorem i0_1033 : xIns xg 0 1033 = some (.iadd) := by decide +kernel
theorem i0_1034 : xIns xg 0 1034 = some (.iaload) := by decide +kernel
theorem i0_1035 : xIns xg 0 1035 = some (.aload_n 0) := by decide +kernel
theorem i0_1036 : xIns xg 0 1036 = some (.iload_n 3) := by decide +kernel
theorem i0_1037 : xIns xg 0 1037 = some (.iconst 3) := by decide +kernel
theorem i0_1038 : xIns xg 0 1038 = some (.iadd) := by decide +kernel
theorem i0_1039 : xIns xg 0 1039 = some (.iaload) := by decide +kernel
theorem i0_1040 : xIns xg 0 1040 = some (.i2l) := by decide +kernel
theorem i0_1041 : xIns xg 0 1041 = some (.bipush 32) := by decide +kernel
theorem i0_1043 : xIns xg 0 1043 = some (.lshl) := by decide +kernel
theorem i0_1044 : xIns xg 0 1044 = some (.aload_n 0) := by decide +kernel
theorem i0_1045 : xIns xg 0 1045 = some (.iload_n 3) := by decide +kernel
theorem i0_1046 : xIns xg 0 1046 = some (.iconst 4) := by decide +kernel
theorem i0_1047 : xIns xg 0 1047 = some (.iadd) := by decide +kernel
theorem i0_1048 : xIns xg 0 1048 = some (.iaload) := by decide +kernel
theorem i0_1049 : xIns xg 0 1049 = some (.i2l) := by decide +kernel
theorem i0_1050 : xIns xg 0 1050 = some (.ldc2_w 83) := by decide +kernel
theorem i0_1053 : xIns xg 0 1053 = some (.land) := by decide +kernel
theorem i0_1054 : xIns xg 0 1054 = some (.lor) := by decide +kernel
theorem i0_1055 : xIns xg 0 1055 = some (.invokevirtual 126) := by decide +kernel
theorem i0_1058 : xIns xg 0 1058 = some (.pop) := by decide +kernel
theorem i0_1059 : xIns xg 0 1059 = some (.goto 162) := by decide +kernel
theorem i0_1062 : xIns xg 0 1062 = some (.aload_n 1) := by decide +kernel
theorem i0_1063 : xIns xg 0 1063 = some (.aload_n 0) := by decide +kernel
theorem i0_1064 : xIns xg 0 1064 = some (.iload_n 3) := by decide +kernel
theorem i0_1065 : xIns xg 0 1065 = some (.iconst 1) := by decide +kernel
theorem i0_1066 : xIns xg 0 1066 = some (.iadd) := by decide +kernel
theorem i0_1067 : xIns xg 0 1067 = some (.iaload) := by decide +kernel
theorem i0_1068 : xIns xg 0 1068 = some (.aload_n 0) := by decide +kernel
theorem i0_1069 : xIns xg 0 1069 = some (.iload_n 3) := by decide +kernel
theorem i0_1070 : xIns xg 0 1070 = some (.iconst 2) := by decide +kernel
theorem i0_1071 : xIns xg 0 1071 = some (.iadd) := by decide +kernel
theorem i0_1072 : xIns xg 0 1072 = some (.iaload) := by decide +kernel
theorem i0_1073 : xIns xg 0 1073 = some (.invokevirtual 127) := by decide +kernel
theorem i0_1076 : xIns xg 0 1076 = some (.pop2) := by decide +kernel
theorem i0_1077 : xIns xg 0 1077 = some (.aload_n 2) := by decide +kernel
theorem i0_1078 : xIns xg 0 1078 = some (.aload_n 0) := by decide +kernel
theorem i0_1079 : xIns xg 0 1079 = some (.iload_n 3) := by decide +kernel
theorem i0_1080 : xIns xg 0 1080 = some (.iconst 1) := by decide +kernel
theorem i0_1081 : xIns xg 0 1081 = some (.iadd) := by decide +kernel
theorem i0_1082 : xIns xg 0 1082 = some (.iaload) := by decide +kernel
theorem i0_1083 : xIns xg 0 1083 = some (.aload_n 0) := by decide +kernel
theorem i0_1084 : xIns xg 0 1084 = some (.iload_n 3) := by decide +kernel
theorem i0_1085 : xIns xg 0 1085 = some (.iconst 2) := by decide +kernel
theorem i0_1086 : xIns xg 0 1086 = some (.iadd) := by decide +kernel
theorem i0_1087 : xIns xg 0 1087 = some (.iaload) := by decide +kernel
theorem i0_1088 : xIns xg 0 1088 = some (.invokevirtual 130) := by decide +kernel
theorem i0_1091 : xIns xg 0 1091 = some (.pop2) := by decide +kernel
theorem i0_1092 : xIns xg 0 1092 = some (.goto 129) := by decide +kernel
theorem i0_1095 : xIns xg 0 1095 = some (.aload_n 1) := by decide +kernel
theorem i0_1096 : xIns xg 0 1096 = some (.aload_n 0) := by decide +kernel
theorem i0_1097 : xIns xg 0 1097 = some (.iload_n 3) := by decide +kernel
theorem i0_1098 : xIns xg 0 1098 = some (.iconst 1) := by decide +kernel
theorem i0_1099 : xIns xg 0 1099 = some (.iadd) := by decide +kernel
theorem i0_1100 : xIns xg 0 1100 = some (.iaload) := by decide +kernel
theorem i0_1101 : xIns xg 0 1101 = some (.aload_n 0) := by decide +kernel
theorem i0_1102 : xIns xg 0 1102 = some (.iload_n 3) := by decide +kernel
theorem i0_1103 : xIns xg 0 1103 = some (.iconst 2) := by decide +kernel
theorem i0_1104 : xIns xg 0 1104 = some (.iadd) := by decide +kernel
theorem i0_1105 : xIns xg 0 1105 = some (.iaload) := by decide +kernel
theorem i0_1106 : xIns xg 0 1106 = some (.aload_n 0) := by decide +kernel
theorem i0_1107 : xIns xg 0 1107 = some (.iload_n 3) := by decide +kernel
theorem i0_1108 : xIns xg 0 1108 = some (.iconst 3) := by decide +kernel
theorem i0_1109 : xIns xg 0 1109 = some (.iadd) := by decide +kernel
theorem i0_1110 : xIns xg 0 1110 = some (.iaload) := by decide +kernel
theorem i0_1111 : xIns xg 0 1111 = some (.aload_n 0) := by decide +kernel
theorem i0_1112 : xIns xg 0 1112 = some (.iload_n 3) := by decide +kernel
theorem i0_1113 : xIns xg 0 1113 = some (.iconst 4) := by decide +kernel
theorem i0_1114 : xIns xg 0 1114 = some (.iadd) := by decide +kernel
theorem i0_1115 : xIns xg 0 1115 = some (.iaload) := by decide +kernel
theorem i0_1116 : xIns xg 0 1116 = some (.aload_n 0) := by decide +kernel
theorem i0_1117 : xIns xg 0 1117 = some (.iload_n 3) := by decide +kernel
theorem i0_1118 : xIns xg 0 1118 = some (.iconst 5) := by decide +kernel
theorem i0_1119 : xIns xg 0 1119 = some (.iadd) := by decide +kernel
theorem i0_1120 : xIns xg 0 1120 = some (.iaload) := by decide +kernel
theorem i0_1121 : xIns xg 0 1121 = some (.invokevirtual 131) := by decide +kernel
theorem i0_1124 : xIns xg 0 1124 = some (.pop) := by decide +kernel
theorem i0_1125 : xIns xg 0 1125 = some (.aload_n 2) := by decide +kernel
theorem i0_1126 : xIns xg 0 1126 = some (.aload_n 0) := by decide +kernel
theorem i0_1127 : xIns xg 0 1127 = some (.iload_n 3) := by decide +kernel
theorem i0_1128 : xIns xg 0 1128 = some (.iconst 1) := by decide +kernel
theorem i0_1129 : xIns xg 0 1129 = some (.iadd) := by decide +kernel
theorem i0_1130 : xIns xg 0 1130 = some (.iaload) := by decide +kernel
theorem i0_1131 : xIns xg 0 1131 = some (.aload_n 0) := by decide +kernel
theorem i0_1132 : xIns xg 0 1132 = some (.iload_n 3) := by decide +kernel
theorem i0_1133 : xIns xg 0 1133 = some (.iconst 2) := by decide +kernel
theorem i0_1134 : xIns xg 0 1134 = some (.iadd) := by decide +kernel
theorem i0_1135 : xIns xg 0 1135 = some (.iaload) := by decide +kernel
theorem i0_1136 : xIns xg 0 1136 = some (.aload_n 0) := by decide +kernel
theorem i0_1137 : xIns xg 0 1137 = some (.iload_n 3) := by decide +kernel
theorem i0_1138 : xIns xg 0 1138 = some (.iconst 3) := by decide +kernel
theorem i0_1139 : xIns xg 0 1139 = some (.iadd) := by decide +kernel
theorem i0_1140 : xIns xg 0 1140 = some (.iaload) := by decide +kernel
theorem i0_1141 : xIns xg 0 1141 = some (.aload_n 0) := by decide +kernel
theorem i0_1142 : xIns xg 0 1142 = some (.iload_n 3) := by decide +kernel
theorem i0_1143 : xIns xg 0 1143 = some (.iconst 4) := by decide +kernel
theorem i0_1144 : xIns xg 0 1144 = some (.iadd) := by decide +kernel
theorem i0_1145 : xIns xg 0 1145 = some (.iaload) := by decide +kernel
theorem i0_1146 : xIns xg 0 1146 = some (.aload_n 0) := by decide +kernel
theorem i0_1147 : xIns xg 0 1147 = some (.iload_n 3) := by decide +kernel
theorem i0_1148 : xIns xg 0 1148 = some (.iconst 5) := by decide +kernel
theorem i0_1149 : xIns xg 0 1149 = some (.iadd) := by decide +kernel
theorem i0_1150 : xIns xg 0 1150 = some (.iaload) := by decide +kernel
theorem i0_1151 : xIns xg 0 1151 = some (.invokevirtual 135) := by decide +kernel
theorem i0_1154 : xIns xg 0 1154 = some (.pop) := by decide +kernel
theorem i0_1155 : xIns xg 0 1155 = some (.goto 66) := by decide +kernel
theorem i0_1158 : xIns xg 0 1158 = some (.aload_n 1) := by decide +kernel
theorem i0_1159 : xIns xg 0 1159 = some (.aload_n 0) := by decide +kernel
theorem i0_1160 : xIns xg 0 1160 = some (.iload_n 3) := by decide +kernel
theorem i0_1161 : xIns xg 0 1161 = some (.iconst 1) := by decide +kernel
theorem i0_1162 : xIns xg 0 1162 = some (.iadd) := by decide +kernel
theorem i0_1163 : xIns xg 0 1163 = some (.iaload) := by decide +kernel
theorem i0_1164 : xIns xg 0 1164 = some (.aload_n 0) := by decide +kernel
theorem i0_1165 : xIns xg 0 1165 = some (.iload_n 3) := by decide +kernel
theorem i0_1166 : xIns xg 0 1166 = some (.iconst 2) := by decide +kernel
theorem i0_1167 : xIns xg 0 1167 = some (.iadd) := by decide +kernel
theorem i0_1168 : xIns xg 0 1168 = some (.iaload) := by decide +kernel
theorem i0_1169 : xIns xg 0 1169 = some (.aload_n 0) := by decide +kernel
theorem i0_1170 : xIns xg 0 1170 = some (.iload_n 3) := by decide +kernel
theorem i0_1171 : xIns xg 0 1171 = some (.iconst 3) := by decide +kernel
theorem i0_1172 : xIns xg 0 1172 = some (.iadd) := by decide +kernel
theorem i0_1173 : xIns xg 0 1173 = some (.iaload) := by decide +kernel
theorem i0_1174 : xIns xg 0 1174 = some (.aload_n 0) := by decide +kernel
theorem i0_1175 : xIns xg 0 1175 = some (.iload_n 3) := by decide +kernel
theorem i0_1176 : xIns xg 0 1176 = some (.iconst 4) := by decide +kernel
theorem i0_1177 : xIns xg 0 1177 = some (.iadd) := by decide +kernel
theorem i0_1178 : xIns xg 0 1178 = some (.iaload) := by decide +kernel
theorem i0_1179 : xIns xg 0 1179 = some (.aload_n 0) := by decide +kernel
theorem i0_1180 : xIns xg 0 1180 = some (.iload_n 3) := by decide +kernel
theorem i0_1181 : xIns xg 0 1181 = some (.iconst 5) := by decide +kernel
theorem i0_1182 : xIns xg 0 1182 = some (.iadd) := by decide +kernel
theorem i0_1183 : xIns xg 0 1183 = some (.iaload) := by decide +kernel
theorem i0_1184 : xIns xg 0 1184 = some (.invokevirtual 136) := by decide +kernel
theorem i0_1187 : xIns xg 0 1187 = some (.aload_n 2) := by decide +kernel
theorem i0_1188 : xIns xg 0 1188 = some (.aload_n 0) := by decide +kernel
theorem i0_1189 : xIns xg 0 1189 = some (.iload_n 3) := by decide +kernel
theorem i0_1190 : xIns xg 0 1190 = some (.iconst 1) := by decide +kernel
theorem i0_1191 : xIns xg 0 1191 = some (.iadd) := by decide +kernel
theorem i0_1192 : xIns xg 0 1192 = some (.iaload) := by decide +kernel
theorem i0_1193 : xIns xg 0 1193 = some (.aload_n 0) := by decide +kernel
theorem i0_1194 : xIns xg 0 1194 = some (.iload_n 3) := by decide +kernel
theorem i0_1195 : xIns xg 0 1195 = some (.iconst 2) := by decide +kernel
theorem i0_1196 : xIns xg 0 1196 = some (.iadd) := by decide +kernel
theorem i0_1197 : xIns xg 0 1197 = some (.iaload) := by decide +kernel
theorem i0_1198 : xIns xg 0 1198 = some (.aload_n 0) := by decide +kernel
theorem i0_1199 : xIns xg 0 1199 = some (.iload_n 3) := by decide +kernel
theorem i0_1200 : xIns xg 0 1200 = some (.iconst 3) := by decide +kernel
theorem i0_1201 : xIns xg 0 1201 = some (.iadd) := by decide +kernel
theorem i0_1202 : xIns xg 0 1202 = some (.iaload) := by decide +kernel
theorem i0_1203 : xIns xg 0 1203 = some (.aload_n 0) := by decide +kernel
theorem i0_1204 : xIns xg 0 1204 = some (.iload_n 3) := by decide +kernel
theorem i0_1205 : xIns xg 0 1205 = some (.iconst 4) := by decide +kernel
theorem i0_1206 : xIns xg 0 1206 = some (.iadd) := by decide +kernel
theorem i0_1207 : xIns xg 0 1207 = some (.iaload) := by decide +kernel
theorem i0_1208 : xIns xg 0 1208 = some (.aload_n 0) := by decide +kernel
theorem i0_1209 : xIns xg 0 1209 = some (.iload_n 3) := by decide +kernel
theorem i0_1210 : xIns xg 0 1210 = some (.iconst 5) := by decide +kernel
theorem i0_1211 : xIns xg 0 1211 = some (.iadd) := by decide +kernel
theorem i0_1212 : xIns xg 0 1212 = some (.iaload) := by decide +kernel
theorem i0_1213 : xIns xg 0 1213 = some (.invokevirtual 139) := by decide +kernel
theorem i0_1216 : xIns xg 0 1216 = some (.if_icmp .eq 5) := by decide +kernel
theorem i0_1219 : xIns xg 0 1219 = some (.iconst 0) := by decide +kernel
theorem i0_1220 : xIns xg 0 1220 = some (.ireturn) := by decide +kernel
def d_law_1221 (N : Nat) (sc : xS) (k18 : St → Int → Option Rs) (s : St) (x3 : Int) : Option Rs :=
  bd (x3 + 6) fun v1 => k18 s v1
set_option maxHeartbeats 4000000 in
set_option maxRecDepth 100000 in
theorem c_law_1221 {d : Nat} {R : Rs} (N : Nat) (sc : xS)  (hd : 554 ≤ d) (k18 : St → Int → Option Rs) (hk18 : ∀ (s : St) (x3 : Int), k18 s x3 = some R → vT sc d 0 18 [(0, .retAddr 0), (1, .ref 0), (2, .ref 77), (3, vi x3)] [] s (fun r => r = qI R))  (s : St) (x3 : Int) : d_law_1221 N sc k18 s x3 = some R → vT sc d 0 1221 [(0, .retAddr 0), (1, .ref 0), (2, .ref 77), (3, vi x3)] [] s (fun r => r = qI R) := by
  obtain ⟨d, rfl⟩ : ∃ d', d = d' + 1 := ⟨d - 1, by omega⟩
  unfold d_law_1221
  refine vInc 1224 (fun v1 => [(3, vi v1), (0, .retAddr 0), (1, .ref 0), (2, .ref 77)]) i0_1221 m0 (by decide) rfl (fun _ => rfl) rfl (fun v1 => ?_)
  refine vGo 18 i0_1224 rfl ?_
  exact fun hD => tLc [(0, .retAddr 0), (1, .ref 0), (2, .ref 77), (3, vi v1)] (xNdk [0, 1, 2, 3] rfl (by decide)) (xNdk [3, 0, 1, 2] rfl (by decide)) ⟨rfl, rfl, rfl, rfl, trivial⟩ (hk18 s v1 hD)
def d_law_18 (N : Nat) (sc : xS)  (k18 : St → Int → Option Rs) (s : St) (x3 : Int) : Option Rs :=
  (if (w32 ((sc.1 : Int) - 6)) < (w32 x3) then some (s, 1) else if 0 ≤ (w32 x3) ∧ (w32 x3) < (sc.1 : Int) then (if (w32 (and32 ((sc.2 (Int.toNat (w32 x3))).toInt) 31)) = 0 then if 0 ≤ (w32 (x3 + 1)) ∧ (w32 (x3 + 1)) < (sc.1 : Int) then bI (d_x7_feed N  s ((sc.2 (Int.toNat (w32 (x3 + 1)))).toInt)) fun s2 v3 => if 0 ≤ (w32 (x3 + 1)) ∧ (w32 (x3 + 1)) < (sc.1 : Int) then bI (d_x8_feed N  s2 ((sc.2 (Int.toNat (w32 (x3 + 1)))).toInt)) fun s4 v5 => d_law_1221 N sc k18 s4 x3 else none else none else (if (w32 (and32 ((sc.2 (Int.toNat (w32 x3))).toInt) 31)) = 1 then if 0 ≤ (w32 (x3 + 1)) ∧ (w32 (x3 + 1)) < (sc.1 : Int) then bI (d_x7_text N  s ((sc.2 (Int.toNat (w32 (x3 + 1)))).toInt)) fun s6 v7 => if 0 ≤ (w32 (x3 + 1)) ∧ (w32 (x3 + 1)) < (sc.1 : Int) then bI (d_x8_text N  s6 ((sc.2 (Int.toNat (w32 (x3 + 1)))).toInt)) fun s8 v9 => d_law_1221 N sc k18 s8 x3 else none else none else (if (w32 (and32 ((sc.2 (Int.toNat (w32 x3))).toInt) 31)) = 2 then if 0 ≤ (w32 (x3 + 1)) ∧ (w32 (x3 + 1)) < (sc.1 : Int) then bI (d_x7_empty N  s ((sc.2 (Int.toNat (w32 (x3 + 1)))).toInt)) fun s10 v11 => if 0 ≤ (w32 (x3 + 1)) ∧ (w32 (x3 + 1)) < (sc.1 : Int) then bI (d_x8_empty N  s10 ((sc.2 (Int.toNat (w32 (x3 + 1)))).toInt)) fun s12 v13 => d_law_1221 N sc k18 s12 x3 else none else none else (if (w32 (and32 ((sc.2 (Int.toNat (w32 x3))).toInt) 31)) = 3 then if 0 ≤ (w32 (x3 + 1)) ∧ (w32 (x3 + 1)) < (sc.1 : Int) then if 0 ≤ (w32 (x3 + 2)) ∧ (w32 (x3 + 2)) < (sc.1 : Int) then if 0 ≤ (w32 (x3 + 3)) ∧ (w32 (x3 + 3)) < (sc.1 : Int) then bI (d_x7_part N  s ((sc.2 (Int.toNat (w32 (x3 + 1)))).toInt) ((sc.2 (Int.toNat (w32 (x3 + 2)))).toInt) ((sc.2 (Int.toNat (w32 (x3 + 3)))).toInt)) fun s14 v15 => if 0 ≤ (w32 (x3 + 1)) ∧ (w32 (x3 + 1)) < (sc.1 : Int) then if 0 ≤ (w32 (x3 + 2)) ∧ (w32 (x3 + 2)) < (sc.1 : Int) then if 0 ≤ (w32 (x3 + 3)) ∧ (w32 (x3 + 3)) < (sc.1 : Int) then bI (d_x8_part N  s14 ((sc.2 (Int.toNat (w32 (x3 + 1)))).toInt) ((sc.2 (Int.toNat (w32 (x3 + 2)))).toInt) ((sc.2 (Int.toNat (w32 (x3 + 3)))).toInt)) fun s16 v17 => d_law_1221 N sc k18 s16 x3 else none else none else none else none else none else none else (if (w32 (and32 ((sc.2 (Int.toNat (w32 x3))).toInt) 31)) = 4 then if 0 ≤ (w32 (x3 + 1)) ∧ (w32 (x3 + 1)) < (sc.1 : Int) then if 0 ≤ (w32 (x3 + 2)) ∧ (w32 (x3 + 2)) < (sc.1 : Int) then bI (d_x7_number N  s ((sc.2 (Int.toNat (w32 (x3 + 1)))).toInt) ((sc.2 (Int.toNat (w32 (x3 + 2)))).toInt)) fun s18 v19 => if 0 ≤ (w32 (x3 + 1)) ∧ (w32 (x3 + 1)) < (sc.1 : Int) then if 0 ≤ (w32 (x3 + 2)) ∧ (w32 (x3 + 2)) < (sc.1 : Int) then bI (d_x8_number N  s18 ((sc.2 (Int.toNat (w32 (x3 + 1)))).toInt) ((sc.2 (Int.toNat (w32 (x3 + 2)))).toInt)) fun s20 v21 => d_law_1221 N sc k18 s20 x3 else none else none else none else none else (if (w32 (and32 ((sc.2 (Int.toNat (w32 x3))).toInt) 31)) = 5 then if 0 ≤ (w32 (x3 + 1)) ∧ (w32 (x3 + 1)) < (sc.1 : Int) then if 0 ≤ (w32 (x3 + 2)) ∧ (w32 (x3 + 2)) < (sc.1 : Int) then if 0 ≤ (w32 (x3 + 3)) ∧ (w32 (x3 + 3)) < (sc.1 : Int) then bI (d_x7_entry N  s ((sc.2 (Int.toNat (w32 (x3 + 1)))).toInt) ((sc.2 (Int.toNat (w32 (x3 + 2)))).toInt) ((sc.2 (Int.toNat (w32 (x3 + 3)))).toInt)) fun s22 v23 => if 0 ≤ (w32 (x3 + 1)) ∧ (w32 (x3 + 1)) < (sc.1 : Int) then if 0 ≤ (w32 (x3 + 2)) ∧ (w32 (x3 + 2)) < (sc.1 : Int) then if 0 ≤ (w32 (x3 + 3)) ∧ (w32 (x3 + 3)) < (sc.1 : Int) then bI (d_x8_entry N  s22 ((sc.2 (Int.toNat (w32 (x3 + 1)))).toInt) ((sc.2 (Int.toNat (w32 (x3 + 2)))).toInt) ((sc.2 (Int.toNat (w32 (x3 + 3)))).toInt)) fun s24 v25 => d_law_1221 N sc k18 s24 x3 else none else none else none else none else none else none else (if (w32 (and32 ((sc.2 (Int.toNat (w32 x3))).toInt) 31)) = 6 then if 0 ≤ (w32 (x3 + 1)) ∧ (w32 (x3 + 1)) < (sc.1 : Int) then if 0 ≤ (w32 (x3 + 2)) ∧ (w32 (x3 + 2)) < (sc.1 : Int) then if 0 ≤ (w32 (x3 + 3)) ∧ (w32 (x3 + 3)) < (sc.1 : Int) then bI (d_x7_twist N  s ((sc.2 (Int.toNat (w32 (x3 + 1)))).toInt) ((sc.2 (Int.toNat (w32 (x3 + 2)))).toInt) ((sc.2 (Int.toNat (w32 (x3 + 3)))).toInt)) fun s26 v27 => if 0 ≤ (w32 (x3 + 1)) ∧ (w32 (x3 + 1)) < (sc.1 : Int) then if 0 ≤ (w32 (x3 + 2)) ∧ (w32 (x3 + 2)) < (sc.1 : Int) then if 0 ≤ (w32 (x3 + 3)) ∧ (w32 (x3 + 3)) < (sc.1 : Int) then bI (d_x8_twist N  s26 ((sc.2 (Int.toNat (w32 (x3 + 1)))).toInt) ((sc.2 (Int.toNat (w32 (x3 + 2)))).toInt) ((sc.2 (Int.toNat (w32 (x3 + 3)))).toInt)) fun s28 v29 => d_law_1221 N sc k18 s28 x3 else none else none else none else none else none else none else (if (w32 (and32 ((sc.2 (Int.toNat (w32 x3))).toInt) 31)) = 7 then if 0 ≤ (w32 (x3 + 1)) ∧ (w32 (x3 + 1)) < (sc.1 : Int) then if 0 ≤ (w32 (x3 + 2)) ∧ (w32 (x3 + 2)) < (sc.1 : Int) then if 0 ≤ (w32 (x3 + 3)) ∧ (w32 (x3 + 3)) < (sc.1 : Int) then bI (d_x7_taken N  s ((sc.2 (Int.toNat (w32 (x3 + 1)))).toInt) ((sc.2 (Int.toNat (w32 (x3 + 2)))).toInt) ((sc.2 (Int.toNat (w32 (x3 + 3)))).toInt)) fun s30 v31 => if 0 ≤ (w32 (x3 + 1)) ∧ (w32 (x3 + 1)) < (sc.1 : Int) then if 0 ≤ (w32 (x3 + 2)) ∧ (w32 (x3 + 2)) < (sc.1 : Int) then if 0 ≤ (w32 (x3 + 3)) ∧ (w32 (x3 + 3)) < (sc.1 : Int) then bI (d_x8_taken N  s30 ((sc.2 (Int.toNat (w32 (x3 + 1)))).toInt) ((sc.2 (Int.toNat (w32 (x3 + 2)))).toInt) ((sc.2 (Int.toNat (w32 (x3 + 3)))).toInt)) fun s32 v33 => d_law_1221 N sc k18 s32 x3 else none else none else none else none else none else none else (if (w32 (and32 ((sc.2 (Int.toNat (w32 x3))).toInt) 31)) = 8 then if 0 ≤ (w32 (x3 + 1)) ∧ (w32 (x3 + 1)) < (sc.1 : Int) then if 0 ≤ (w32 (x3 + 2)) ∧ (w32 (x3 + 2)) < (sc.1 : Int) then bI (d_x7_print N  s ((sc.2 (Int.toNat (w32 (x3 + 1)))).toInt) ((sc.2 (Int.toNat (w32 (x3 + 2)))).toInt)) fun s34 v35 => if 0 ≤ (w32 (x3 + 1)) ∧ (w32 (x3 + 1)) < (sc.1 : Int) then if 0 ≤ (w32 (x3 + 2)) ∧ (w32 (x3 + 2)) < (sc.1 : Int) then bI (d_x8_print N  s34 ((sc.2 (Int.toNat (w32 (x3 + 1)))).toInt) ((sc.2 (Int.toNat (w32 (x3 + 2)))).toInt)) fun s36 v37 => d_law_1221 N sc k18 s36 x3 else none else none else none else none else (if (w32 (and32 ((sc.2 (Int.toNat (w32 x3))).toInt) 31)) = 9 then if 0 ≤ (w32 (x3 + 1)) ∧ (w32 (x3 + 1)) < (sc.1 : Int) then if 0 ≤ (w32 (x3 + 2)) ∧ (w32 (x3 + 2)) < (sc.1 : Int) then bI (d_x7_there N  s ((sc.2 (Int.toNat (w32 (x3 + 1)))).toInt) ((sc.2 (Int.toNat (w32 (x3 + 2)))).toInt)) fun s38 v39 => if 0 ≤ (w32 (x3 + 1)) ∧ (w32 (x3 + 1)) < (sc.1 : Int) then if 0 ≤ (w32 (x3 + 2)) ∧ (w32 (x3 + 2)) < (sc.1 : Int) then bI (d_x8_there N  s38 ((sc.2 (Int.toNat (w32 (x3 + 1)))).toInt) ((sc.2 (Int.toNat (w32 (x3 + 2)))).toInt)) fun s40 v41 => d_law_1221 N sc k18 s40 x3 else none else none else none else none else (if (w32 (and32 ((sc.2 (Int.toNat (w32 x3))).toInt) 31)) = 10 then if 0 ≤ (w32 (x3 + 1)) ∧ (w32 (x3 + 1)) < (sc.1 : Int) then if 0 ≤ (w32 (x3 + 2)) ∧ (w32 (x3 + 2)) < (sc.1 : Int) then bI (d_x7_is N  s ((sc.2 (Int.toNat (w32 (x3 + 1)))).toInt) ((sc.2 (Int.toNat (w32 (x3 + 2)))).toInt)) fun s42 v43 => if 0 ≤ (w32 (x3 + 1)) ∧ (w32 (x3 + 1)) < (sc.1 : Int) then if 0 ≤ (w32 (x3 + 2)) ∧ (w32 (x3 + 2)) < (sc.1 : Int) then bI (d_x8_is N  s42 ((sc.2 (Int.toNat (w32 (x3 + 1)))).toInt) ((sc.2 (Int.toNat (w32 (x3 + 2)))).toInt)) fun s44 v45 => d_law_1221 N sc k18 s44 x3 else none else none else none else none else (if (w32 (and32 ((sc.2 (Int.toNat (w32 x3))).toInt) 31)) = 11 then if 0 ≤ (w32 (x3 + 1)) ∧ (w32 (x3 + 1)) < (sc.1 : Int) then if 0 ≤ (w32 (x3 + 2)) ∧ (w32 (x3 + 2)) < (sc.1 : Int) then bI (d_x7_head N  s ((sc.2 (Int.toNat (w32 (x3 + 1)))).toInt) ((sc.2 (Int.toNat (w32 (x3 + 2)))).toInt)) fun s46 v47 => if 0 ≤ (w32 (x3 + 1)) ∧ (w32 (x3 + 1)) < (sc.1 : Int) then if 0 ≤ (w32 (x3 + 2)) ∧ (w32 (x3 + 2)) < (sc.1 : Int) then bI (d_x8_head N  s46 ((sc.2 (Int.toNat (w32 (x3 + 1)))).toInt) ((sc.2 (Int.toNat (w32 (x3 + 2)))).toInt)) fun s48 v49 => d_law_1221 N sc k18 s48 x3 else none else none else none else none else (if (w32 (and32 ((sc.2 (Int.toNat (w32 x3))).toInt) 31)) = 12 then if 0 ≤ (w32 (x3 + 1)) ∧ (w32 (x3 + 1)) < (sc.1 : Int) then if 0 ≤ (w32 (x3 + 2)) ∧ (w32 (x3 + 2)) < (sc.1 : Int) then bI (d_x7_need N  s ((sc.2 (Int.toNat (w32 (x3 + 1)))).toInt) ((sc.2 (Int.toNat (w32 (x3 + 2)))).toInt)) fun s50 v51 => if 0 ≤ (w32 (x3 + 1)) ∧ (w32 (x3 + 1)) < (sc.1 : Int) then if 0 ≤ (w32 (x3 + 2)) ∧ (w32 (x3 + 2)) < (sc.1 : Int) then bI (d_x8_need N  s50 ((sc.2 (Int.toNat (w32 (x3 + 1)))).toInt) ((sc.2 (Int.toNat (w32 (x3 + 2)))).toInt)) fun s52 v53 => d_law_1221 N sc k18 s52 x3 else none else none else none else none else (if (w32 (and32 ((sc.2 (Int.toNat (w32 x3))).toInt) 31)) = 13 then if 0 ≤ (w32 (x3 + 1)) ∧ (w32 (x3 + 1)) < (sc.1 : Int) then bI (d_x7_limit N  s ((sc.2 (Int.toNat (w32 (x3 + 1)))).toInt)) fun s54 v55 => if 0 ≤ (w32 (x3 + 1)) ∧ (w32 (x3 + 1)) < (sc.1 : Int) then bI (d_x8_limit N  s54 ((sc.2 (Int.toNat (w32 (x3 + 1)))).toInt)) fun s56 v57 => d_law_1221 N sc k18 s56 x3 else none else none else (if (w32 (and32 ((sc.2 (Int.toNat (w32 x3))).toInt) 31)) = 14 then bI (d_x7_forget N  s ) fun s58 v59 => bI (d_x8_forget N  s58 ) fun s60 v61 => d_law_1221 N sc k18 s60 x3 else (if (w32 (and32 ((sc.2 (Int.toNat (w32 x3))).toInt) 31)) = 15 then if 0 ≤ (w32 (x3 + 1)) ∧ (w32 (x3 + 1)) < (sc.1 : Int) then if 0 ≤ (w32 (x3 + 2)) ∧ (w32 (x3 + 2)) < (sc.1 : Int) then bI (d_x7_sum N  s ((sc.2 (Int.toNat (w32 (x3 + 1)))).toInt) ((sc.2 (Int.toNat (w32 (x3 + 2)))).toInt)) fun s62 v63 => if 0 ≤ (w32 (x3 + 1)) ∧ (w32 (x3 + 1)) < (sc.1 : Int) then if 0 ≤ (w32 (x3 + 2)) ∧ (w32 (x3 + 2)) < (sc.1 : Int) then bI (d_x8_sum N  s62 ((sc.2 (Int.toNat (w32 (x3 + 1)))).toInt) ((sc.2 (Int.toNat (w32 (x3 + 2)))).toInt)) fun s64 v65 => d_law_1221 N sc k18 s64 x3 else none else none else none else none else (if (w32 (and32 ((sc.2 (Int.toNat (w32 x3))).toInt) 31)) = 16 then if 0 ≤ (w32 (x3 + 1)) ∧ (w32 (x3 + 1)) < (sc.1 : Int) then if 0 ≤ (w32 (x3 + 2)) ∧ (w32 (x3 + 2)) < (sc.1 : Int) then if 0 ≤ (w32 (x3 + 3)) ∧ (w32 (x3 + 3)) < (sc.1 : Int) then if 0 ≤ (w32 (x3 + 4)) ∧ (w32 (x3 + 4)) < (sc.1 : Int) then bI (d_x7_find N  s ((sc.2 (Int.toNat (w32 (x3 + 1)))).toInt) (or64 (shl64 (w32 ((sc.2 (Int.toNat (w32 (x3 + 2)))).toInt)) 32) (and64 (w32 ((sc.2 (Int.toNat (w32 (x3 + 3)))).toInt)) 4294967295)) ((sc.2 (Int.toNat (w32 (x3 + 4)))).toInt)) fun s66 v67 => if 0 ≤ (w32 (x3 + 1)) ∧ (w32 (x3 + 1)) < (sc.1 : Int) then if 0 ≤ (w32 (x3 + 2)) ∧ (w32 (x3 + 2)) < (sc.1 : Int) then if 0 ≤ (w32 (x3 + 3)) ∧ (w32 (x3 + 3)) < (sc.1 : Int) then if 0 ≤ (w32 (x3 + 4)) ∧ (w32 (x3 + 4)) < (sc.1 : Int) then bI (d_x8_find N  s66 ((sc.2 (Int.toNat (w32 (x3 + 1)))).toInt) (or64 (shl64 (w32 ((sc.2 (Int.toNat (w32 (x3 + 2)))).toInt)) 32) (and64 (w32 ((sc.2 (Int.toNat (w32 (x3 + 3)))).toInt)) 4294967295)) ((sc.2 (Int.toNat (w32 (x3 + 4)))).toInt)) fun s68 v69 => d_law_1221 N sc k18 s68 x3 else none else none else none else none else none else none else none else none else (if (w32 (and32 ((sc.2 (Int.toNat (w32 x3))).toInt) 31)) = 17 then if 0 ≤ (w32 (x3 + 1)) ∧ (w32 (x3 + 1)) < (sc.1 : Int) then if 0 ≤ (w32 (x3 + 2)) ∧ (w32 (x3 + 2)) < (sc.1 : Int) then if 0 ≤ (w32 (x3 + 3)) ∧ (w32 (x3 + 3)) < (sc.1 : Int) then bI (d_x7_differ N  s ((sc.2 (Int.toNat (w32 (x3 + 1)))).toInt) ((sc.2 (Int.toNat (w32 (x3 + 2)))).toInt) ((sc.2 (Int.toNat (w32 (x3 + 3)))).toInt)) fun s70 v71 => if 0 ≤ (w32 (x3 + 1)) ∧ (w32 (x3 + 1)) < (sc.1 : Int) then if 0 ≤ (w32 (x3 + 2)) ∧ (w32 (x3 + 2)) < (sc.1 : Int) then if 0 ≤ (w32 (x3 + 3)) ∧ (w32 (x3 + 3)) < (sc.1 : Int) then bI (d_x8_differ N  s70 ((sc.2 (Int.toNat (w32 (x3 + 1)))).toInt) ((sc.2 (Int.toNat (w32 (x3 + 2)))).toInt) ((sc.2 (Int.toNat (w32 (x3 + 3)))).toInt)) fun s72 v73 => d_law_1221 N sc k18 s72 x3 else none else none else none else none else none else none else (if (w32 (and32 ((sc.2 (Int.toNat (w32 x3))).toInt) 31)) = 18 then if 0 ≤ (w32 (x3 + 1)) ∧ (w32 (x3 + 1)) < (sc.1 : Int) then bI (d_x7_rises N  s ((sc.2 (Int.toNat (w32 (x3 + 1)))).toInt)) fun s74 v75 => if 0 ≤ (w32 (x3 + 1)) ∧ (w32 (x3 + 1)) < (sc.1 : Int) then bI (d_x8_rises N  s74 ((sc.2 (Int.toNat (w32 (x3 + 1)))).toInt)) fun s76 v77 => d_law_1221 N sc k18 s76 x3 else none else none else (if (w32 (and32 ((sc.2 (Int.toNat (w32 x3))).toInt) 31)) = 19 then if 0 ≤ (w32 (x3 + 1)) ∧ (w32 (x3 + 1)) < (sc.1 : Int) then if 0 ≤ (w32 (x3 + 2)) ∧ (w32 (x3 + 2)) < (sc.1 : Int) then if 0 ≤ (w32 (x3 + 3)) ∧ (w32 (x3 + 3)) < (sc.1 : Int) then bI (d_x7_film N  s ((sc.2 (Int.toNat (w32 (x3 + 1)))).toInt) ((sc.2 (Int.toNat (w32 (x3 + 2)))).toInt) ((sc.2 (Int.toNat (w32 (x3 + 3)))).toInt)) fun s78 v79 => if 0 ≤ (w32 (x3 + 1)) ∧ (w32 (x3 + 1)) < (sc.1 : Int) then if 0 ≤ (w32 (x3 + 2)) ∧ (w32 (x3 + 2)) < (sc.1 : Int) then if 0 ≤ (w32 (x3 + 3)) ∧ (w32 (x3 + 3)) < (sc.1 : Int) then bI (d_x8_film N  s78 ((sc.2 (Int.toNat (w32 (x3 + 1)))).toInt) ((sc.2 (Int.toNat (w32 (x3 + 2)))).toInt) ((sc.2 (Int.toNat (w32 (x3 + 3)))).toInt)) fun s80 v81 => d_law_1221 N sc k18 s80 x3 else none else none else none else none else none else none else (if (w32 (and32 ((sc.2 (Int.toNat (w32 x3))).toInt) 31)) = 20 then if 0 ≤ (w32 (x3 + 1)) ∧ (w32 (x3 + 1)) < (sc.1 : Int) then if 0 ≤ (w32 (x3 + 2)) ∧ (w32 (x3 + 2)) < (sc.1 : Int) then if 0 ≤ (w32 (x3 + 3)) ∧ (w32 (x3 + 3)) < (sc.1 : Int) then bI (d_x7_tells N  s ((sc.2 (Int.toNat (w32 (x3 + 1)))).toInt) ((sc.2 (Int.toNat (w32 (x3 + 2)))).toInt) ((sc.2 (Int.toNat (w32 (x3 + 3)))).toInt)) fun s82 v83 => if 0 ≤ (w32 (x3 + 1)) ∧ (w32 (x3 + 1)) < (sc.1 : Int) then if 0 ≤ (w32 (x3 + 2)) ∧ (w32 (x3 + 2)) < (sc.1 : Int) then if 0 ≤ (w32 (x3 + 3)) ∧ (w32 (x3 + 3)) < (sc.1 : Int) then bI (d_x8_tells N  s82 ((sc.2 (Int.toNat (w32 (x3 + 1)))).toInt) ((sc.2 (Int.toNat (w32 (x3 + 2)))).toInt) ((sc.2 (Int.toNat (w32 (x3 + 3)))).toInt)) fun s84 v85 => d_law_1221 N sc k18 s84 x3 else none else none else none else none else none else none else (if (w32 (and32 ((sc.2 (Int.toNat (w32 x3))).toInt) 31)) = 21 then bI (d_x7_image N  s ) fun s86 v87 => bI (d_x8_image N  s86 ) fun s88 v89 => d_law_1221 N sc k18 s88 x3 else (if (w32 (and32 ((sc.2 (Int.toNat (w32 x3))).toInt) 31)) = 22 then bI (d_x7_back N  s ) fun s90 v91 => bI (d_x8_back N  s90 ) fun s92 v93 => d_law_1221 N sc k18 s92 x3 else (if (w32 (and32 ((sc.2 (Int.toNat (w32 x3))).toInt) 31)) = 23 then if 0 ≤ (w32 (x3 + 1)) ∧ (w32 (x3 + 1)) < (sc.1 : Int) then bI (d_x7_count N  s ((sc.2 (Int.toNat (w32 (x3 + 1)))).toInt)) fun s94 v95 => if 0 ≤ (w32 (x3 + 1)) ∧ (w32 (x3 + 1)) < (sc.1 : Int) then bI (d_x8_count N  s94 ((sc.2 (Int.toNat (w32 (x3 + 1)))).toInt)) fun s96 v97 => d_law_1221 N sc k18 s96 x3 else none else none else (if (w32 (and32 ((sc.2 (Int.toNat (w32 x3))).toInt) 31)) = 24 then if 0 ≤ (w32 (x3 + 1)) ∧ (w32 (x3 + 1)) < (sc.1 : Int) then if 0 ≤ (w32 (x3 + 2)) ∧ (w32 (x3 + 2)) < (sc.1 : Int) then if 0 ≤ (w32 (x3 + 3)) ∧ (w32 (x3 + 3)) < (sc.1 : Int) then bI (d_x7_sheet N  s ((sc.2 (Int.toNat (w32 (x3 + 1)))).toInt) ((sc.2 (Int.toNat (w32 (x3 + 2)))).toInt) ((sc.2 (Int.toNat (w32 (x3 + 3)))).toInt)) fun s98 v99 => if 0 ≤ (w32 (x3 + 1)) ∧ (w32 (x3 + 1)) < (sc.1 : Int) then if 0 ≤ (w32 (x3 + 2)) ∧ (w32 (x3 + 2)) < (sc.1 : Int) then if 0 ≤ (w32 (x3 + 3)) ∧ (w32 (x3 + 3)) < (sc.1 : Int) then bI (d_x8_sheet N  s98 ((sc.2 (Int.toNat (w32 (x3 + 1)))).toInt) ((sc.2 (Int.toNat (w32 (x3 + 2)))).toInt) ((sc.2 (Int.toNat (w32 (x3 + 3)))).toInt)) fun s100 v101 => d_law_1221 N sc k18 s100 x3 else none else none else none else none else none else none else (if (w32 (and32 ((sc.2 (Int.toNat (w32 x3))).toInt) 31)) = 25 then if 0 ≤ (w32 (x3 + 1)) ∧ (w32 (x3 + 1)) < (sc.1 : Int) then if 0 ≤ (w32 (x3 + 2)) ∧ (w32 (x3 + 2)) < (sc.1 : Int) then if 0 ≤ (w32 (x3 + 3)) ∧ (w32 (x3 + 3)) < (sc.1 : Int) then if 0 ≤ (w32 (x3 + 4)) ∧ (w32 (x3 + 4)) < (sc.1 : Int) then bI (d_x7_put N  s ((sc.2 (Int.toNat (w32 (x3 + 1)))).toInt) ((sc.2 (Int.toNat (w32 (x3 + 2)))).toInt) (or64 (shl64 (w32 ((sc.2 (Int.toNat (w32 (x3 + 3)))).toInt)) 32) (and64 (w32 ((sc.2 (Int.toNat (w32 (x3 + 4)))).toInt)) 4294967295))) fun s102 v103 => if 0 ≤ (w32 (x3 + 1)) ∧ (w32 (x3 + 1)) < (sc.1 : Int) then if 0 ≤ (w32 (x3 + 2)) ∧ (w32 (x3 + 2)) < (sc.1 : Int) then if 0 ≤ (w32 (x3 + 3)) ∧ (w32 (x3 + 3)) < (sc.1 : Int) then if 0 ≤ (w32 (x3 + 4)) ∧ (w32 (x3 + 4)) < (sc.1 : Int) then bI (d_x8_put N  s102 ((sc.2 (Int.toNat (w32 (x3 + 1)))).toInt) ((sc.2 (Int.toNat (w32 (x3 + 2)))).toInt) (or64 (shl64 (w32 ((sc.2 (Int.toNat (w32 (x3 + 3)))).toInt)) 32) (and64 (w32 ((sc.2 (Int.toNat (w32 (x3 + 4)))).toInt)) 4294967295))) fun s104 v105 => d_law_1221 N sc k18 s104 x3 else none else none else none else none else none else none else none else none else (if (w32 (and32 ((sc.2 (Int.toNat (w32 x3))).toInt) 31)) = 26 then if 0 ≤ (w32 (x3 + 1)) ∧ (w32 (x3 + 1)) < (sc.1 : Int) then if 0 ≤ (w32 (x3 + 2)) ∧ (w32 (x3 + 2)) < (sc.1 : Int) then bI (d_x7_item N  s ((sc.2 (Int.toNat (w32 (x3 + 1)))).toInt) ((sc.2 (Int.toNat (w32 (x3 + 2)))).toInt)) fun s106 v107 => if 0 ≤ (w32 (x3 + 1)) ∧ (w32 (x3 + 1)) < (sc.1 : Int) then if 0 ≤ (w32 (x3 + 2)) ∧ (w32 (x3 + 2)) < (sc.1 : Int) then bI (d_x8_item N  s106 ((sc.2 (Int.toNat (w32 (x3 + 1)))).toInt) ((sc.2 (Int.toNat (w32 (x3 + 2)))).toInt)) fun s108 v109 => d_law_1221 N sc k18 s108 x3 else none else none else none else none else (if (w32 (and32 ((sc.2 (Int.toNat (w32 x3))).toInt) 31)) = 27 then if 0 ≤ (w32 (x3 + 1)) ∧ (w32 (x3 + 1)) < (sc.1 : Int) then if 0 ≤ (w32 (x3 + 2)) ∧ (w32 (x3 + 2)) < (sc.1 : Int) then if 0 ≤ (w32 (x3 + 3)) ∧ (w32 (x3 + 3)) < (sc.1 : Int) then if 0 ≤ (w32 (x3 + 4)) ∧ (w32 (x3 + 4)) < (sc.1 : Int) then if 0 ≤ (w32 (x3 + 5)) ∧ (w32 (x3 + 5)) < (sc.1 : Int) then bI (d_x7_copy N  s ((sc.2 (Int.toNat (w32 (x3 + 1)))).toInt) ((sc.2 (Int.toNat (w32 (x3 + 2)))).toInt) ((sc.2 (Int.toNat (w32 (x3 + 3)))).toInt) ((sc.2 (Int.toNat (w32 (x3 + 4)))).toInt) ((sc.2 (Int.toNat (w32 (x3 + 5)))).toInt)) fun s110 v111 => if 0 ≤ (w32 (x3 + 1)) ∧ (w32 (x3 + 1)) < (sc.1 : Int) then if 0 ≤ (w32 (x3 + 2)) ∧ (w32 (x3 + 2)) < (sc.1 : Int) then if 0 ≤ (w32 (x3 + 3)) ∧ (w32 (x3 + 3)) < (sc.1 : Int) then if 0 ≤ (w32 (x3 + 4)) ∧ (w32 (x3 + 4)) < (sc.1 : Int) then if 0 ≤ (w32 (x3 + 5)) ∧ (w32 (x3 + 5)) < (sc.1 : Int) then bI (d_x8_copy N  s110 ((sc.2 (Int.toNat (w32 (x3 + 1)))).toInt) ((sc.2 (Int.toNat (w32 (x3 + 2)))).toInt) ((sc.2 (Int.toNat (w32 (x3 + 3)))).toInt) ((sc.2 (Int.toNat (w32 (x3 + 4)))).toInt) ((sc.2 (Int.toNat (w32 (x3 + 5)))).toInt)) fun s112 v113 => d_law_1221 N sc k18 s112 x3 else none else none else none else none else none else none else none else none else none else none else (if (w32 (and32 ((sc.2 (Int.toNat (w32 x3))).toInt) 31)) = 28 then if 0 ≤ (w32 (x3 + 1)) ∧ (w32 (x3 + 1)) < (sc.1 : Int) then if 0 ≤ (w32 (x3 + 2)) ∧ (w32 (x3 + 2)) < (sc.1 : Int) then if 0 ≤ (w32 (x3 + 3)) ∧ (w32 (x3 + 3)) < (sc.1 : Int) then if 0 ≤ (w32 (x3 + 4)) ∧ (w32 (x3 + 4)) < (sc.1 : Int) then if 0 ≤ (w32 (x3 + 5)) ∧ (w32 (x3 + 5)) < (sc.1 : Int) then bI (d_x7_lay N  s ((sc.2 (Int.toNat (w32 (x3 + 1)))).toInt) ((sc.2 (Int.toNat (w32 (x3 + 2)))).toInt) ((sc.2 (Int.toNat (w32 (x3 + 3)))).toInt) ((sc.2 (Int.toNat (w32 (x3 + 4)))).toInt) ((sc.2 (Int.toNat (w32 (x3 + 5)))).toInt)) fun s114 v115 => if 0 ≤ (w32 (x3 + 1)) ∧ (w32 (x3 + 1)) < (sc.1 : Int) then if 0 ≤ (w32 (x3 + 2)) ∧ (w32 (x3 + 2)) < (sc.1 : Int) then if 0 ≤ (w32 (x3 + 3)) ∧ (w32 (x3 + 3)) < (sc.1 : Int) then if 0 ≤ (w32 (x3 + 4)) ∧ (w32 (x3 + 4)) < (sc.1 : Int) then if 0 ≤ (w32 (x3 + 5)) ∧ (w32 (x3 + 5)) < (sc.1 : Int) then bI (d_x8_lay N  s114 ((sc.2 (Int.toNat (w32 (x3 + 1)))).toInt) ((sc.2 (Int.toNat (w32 (x3 + 2)))).toInt) ((sc.2 (Int.toNat (w32 (x3 + 3)))).toInt) ((sc.2 (Int.toNat (w32 (x3 + 4)))).toInt) ((sc.2 (Int.toNat (w32 (x3 + 5)))).toInt)) fun s116 v117 => (if (w32 v115) = (w32 v117) then d_law_1221 N sc k18 s116 x3 else some (s116, 0)) else none else none else none else none else none else none else none else none else none else none else d_law_1221 N sc k18 s x3))))))))))))))))))))))))))))) else none)
def d_law_18L (N : Nat) (sc : xS)  : Nat → St → Int → Option Rs
  | 0 => fun _ _ => none
  | n + 1 => d_law_18 N sc  (d_law_18L N sc  n)
set_option maxHeartbeats 4000000 in
set_option maxRecDepth 100000 in
theorem c_law_18 {d : Nat} {R : Rs} (N : Nat) (sc : xS)  (hd : 554 ≤ d)   (k18 : St → Int → Option Rs) (hk18 : ∀ (s : St) (x3 : Int), k18 s x3 = some R → vT sc d 0 18 [(0, .retAddr 0), (1, .ref 0), (2, .ref 77), (3, vi x3)] [] s (fun r => r = qI R)) (s : St) (x3 : Int) : d_law_18 N sc  k18 s x3 = some R → vT sc d 0 18 [(0, .retAddr 0), (1, .ref 0), (2, .ref 77), (3, vi x3)] [] s (fun r => r = qI R) := by
  obtain ⟨d, rfl⟩ : ∃ d', d = d' + 1 := ⟨d - 1, by omega⟩
  unfold d_law_18
  refine vLin 19 i0_18 rfl rfl ?_
  refine vLsn0 20 (by decide) i0_19 rfl rfl ?_
  refine vSln0 21 i0_20 rfl ?_
  refine vKb 23 i0_21 (by decide) rfl ?_
  refine vIsub 24 i0_23 rfl ?_
  refine vCgt 1227 27 rfl rfl i0_24 rfl rfl ?_ ?_
  · refine vK 1228 i0_1227 rfl ?_
    exact vRi i0_1228 m0 (by decide)
  · refine vLsn0 28 (by decide) i0_27 rfl rfl ?_
    refine vLin 29 i0_28 rfl rfl ?_
    refine vSal 30 rfl i0_29 rfl ?_
    refine vKb 32 i0_30 (by decide) rfl ?_
    refine vIand 33 i0_32 rfl ?_
    refine vSw 164 (v := 0) rfl i0_33 rfl rfl ?_ (fun h0 => ?_)
    · refine vLan 165 i0_164 rfl rfl ?_
      refine vLsn0 166 (by decide) i0_165 rfl rfl ?_
      refine vLin 167 i0_166 rfl rfl ?_
      refine vK 168 i0_167 rfl ?_
      refine vIadd 169 i0_168 rfl ?_
      refine vSal 170 rfl i0_169 rfl ?_
      refine vCallI 173 [.ref 0, vi ((sc.2 (Int.toNat (w32 (x3 + 1)))).toInt)] [] [(0, .ref 0), (1, vi ((sc.2 (Int.toNat (w32 (x3 + 1)))).toInt))] i0_170 rfl (xlk0 l0_13) (Or.inl rfl) m86 rfl rfl (Nat.le_of_ble_eq_true rfl) (Nat.le_of_ble_eq_true rfl) (Nat.le_of_ble_eq_true rfl) (xh0 sh_0 (by decide)) rfl rfl (fun R1 => c_x7_feed N   (by omega) s ((sc.2 (Int.toNat (w32 (x3 + 1)))).toInt)) (fun s2 v3 => ?_)
      refine vD 174 i0_173 rfl rfl rfl ?_
      refine vLan 175 i0_174 rfl rfl ?_
      refine vLsn0 176 (by decide) i0_175 rfl rfl ?_
      refine vLin 177 i0_176 rfl rfl ?_
      refine vK 178 i0_177 rfl ?_
      refine vIadd 179 i0_178 rfl ?_
      refine vSal 180 rfl i0_179 rfl ?_
      refine vCallI 183 [.ref 77, vi ((sc.2 (Int.toNat (w32 (x3 + 1)))).toInt)] [] [(0, .ref 77), (1, vi ((sc.2 (Int.toNat (w32 (x3 + 1)))).toInt))] i0_180 rfl (xlk0 l0_17) (Or.inl rfl) m131 rfl rfl (Nat.le_of_ble_eq_true rfl) (Nat.le_of_ble_eq_true rfl) (Nat.le_of_ble_eq_true rfl) (xh0 sh_77 (by decide)) rfl rfl (fun R1 => c_x8_feed N   (by omega) s2 ((sc.2 (Int.toNat (w32 (x3 + 1)))).toInt)) (fun s4 v5 => ?_)
      refine vD 184 i0_183 rfl rfl rfl ?_
      refine vGo 1221 i0_184 rfl ?_
      exact fun hD => c_law_1221 N sc  hd k18 hk18 s4 x3 hD
    refine vSw 187 (v := 1) rfl i0_33 rfl rfl ?_ (fun h1 => ?_)
    · refine vLan 188 i0_187 rfl rfl ?_
      refine vLsn0 189 (by decide) i0_188 rfl rfl ?_
      refine vLin 190 i0_189 rfl rfl ?_
      refine vK 191 i0_190 rfl ?_
      refine vIadd 192 i0_191 rfl ?_
      refine vSal 193 rfl i0_192 rfl ?_
      refine vCallI 196 [.ref 0, vi ((sc.2 (Int.toNat (w32 (x3 + 1)))).toInt)] [] [(0, .ref 0), (1, vi ((sc.2 (Int.toNat (w32 (x3 + 1)))).toInt))] i0_193 rfl (xlk0 l0_18) (Or.inl rfl) m117 rfl rfl (Nat.le_of_ble_eq_true rfl) (Nat.le_of_ble_eq_true rfl) (Nat.le_of_ble_eq_true rfl) (xh0 sh_0 (by decide)) rfl rfl (fun R1 => c_x7_text N   (by omega) s ((sc.2 (Int.toNat (w32 (x3 + 1)))).toInt)) (fun s6 v7 => ?_)
      refine vD 197 i0_196 rfl rfl rfl ?_
      refine vLan 198 i0_197 rfl rfl ?_
      refine vLsn0 199 (by decide) i0_198 rfl rfl ?_
      refine vLin 200 i0_199 rfl rfl ?_
      refine vK 201 i0_200 rfl ?_
      refine vIadd 202 i0_201 rfl ?_
      refine vSal 203 rfl i0_202 rfl ?_
      refine vCallI 206 [.ref 77, vi ((sc.2 (Int.toNat (w32 (x3 + 1)))).toInt)] [] [(0, .ref 77), (1, vi ((sc.2 (Int.toNat (w32 (x3 + 1)))).toInt))] i0_203 rfl (xlk0 l0_21) (Or.inl rfl) m190 rfl rfl (Nat.le_of_ble_eq_true rfl) (Nat.le_of_ble_eq_true rfl) (Nat.le_of_ble_eq_true rfl) (xh0 sh_77 (by decide)) rfl rfl (fun R1 => c_x8_text N   (by omega) s6 ((sc.2 (Int.toNat (w32 (x3 + 1)))).toInt)) (fun s8 v9 => ?_)
      refine vD 207 i0_206 rfl rfl rfl ?_
      refine vGo 1221 i0_207 rfl ?_
      exact fun hD => c_law_1221 N sc  hd k18 hk18 s8 x3 hD
    refine vSw 210 (v := 2) rfl i0_33 rfl rfl ?_ (fun h2 => ?_)
    · refine vLan 211 i0_210 rfl rfl ?_
      refine vLsn0 212 (by decide) i0_211 rfl rfl ?_
      refine vLin 213 i0_212 rfl rfl ?_
      refine vK 214 i0_213 rfl ?_
      refine vIadd 215 i0_214 rfl ?_
      refine vSal 216 rfl i0_215 rfl ?_
      refine vCallI 219 [.ref 0, vi ((sc.2 (Int.toNat (w32 (x3 + 1)))).toInt)] [] [(0, .ref 0), (1, vi ((sc.2 (Int.toNat (w32 (x3 + 1)))).toInt))] i0_216 rfl (xlk0 l0_22) (Or.inl rfl) m84 rfl rfl (Nat.le_of_ble_eq_true rfl) (Nat.le_of_ble_eq_true rfl) (Nat.le_of_ble_eq_true rfl) (xh0 sh_0 (by decide)) rfl rfl (fun R1 => c_x7_empty N   (by omega) s ((sc.2 (Int.toNat (w32 (x3 + 1)))).toInt)) (fun s10 v11 => ?_)
      refine vD 220 i0_219 rfl rfl rfl ?_
      refine vLan 221 i0_220 rfl rfl ?_
      refine vLsn0 222 (by decide) i0_221 rfl rfl ?_
      refine vLin 223 i0_222 rfl rfl ?_
      refine vK 224 i0_223 rfl ?_
      refine vIadd 225 i0_224 rfl ?_
      refine vSal 226 rfl i0_225 rfl ?_
      refine vCallI 229 [.ref 77, vi ((sc.2 (Int.toNat (w32 (x3 + 1)))).toInt)] [] [(0, .ref 77), (1, vi ((sc.2 (Int.toNat (w32 (x3 + 1)))).toInt))] i0_226 rfl (xlk0 l0_25) (Or.inl rfl) m128 rfl rfl (Nat.le_of_ble_eq_true rfl) (Nat.le_of_ble_eq_true rfl) (Nat.le_of_ble_eq_true rfl) (xh0 sh_77 (by decide)) rfl rfl (fun R1 => c_x8_empty N   (by omega) s10 ((sc.2 (Int.toNat (w32 (x3 + 1)))).toInt)) (fun s12 v13 => ?_)
      refine vD 230 i0_229 rfl rfl rfl ?_
      refine vGo 1221 i0_230 rfl ?_
      exact fun hD => c_law_1221 N sc  hd k18 hk18 s12 x3 hD
    refine vSw 233 (v := 3) rfl i0_33 rfl rfl ?_ (fun h3 => ?_)
    · refine vLan 234 i0_233 rfl rfl ?_
      refine vLsn0 235 (by decide) i0_234 rfl rfl ?_
      refine vLin 236 i0_235 rfl rfl ?_
      refine vK 237 i0_236 rfl ?_
      refine vIadd 238 i0_237 rfl ?_
      refine vSal 239 rfl i0_238 rfl ?_
      refine vLsn0 240 (by decide) i0_239 rfl rfl ?_
      refine vLin 241 i0_240 rfl rfl ?_
      refine vK 242 i0_241 rfl ?_
      refine vIadd 243 i0_242 rfl ?_
      refine vSal 244 rfl i0_243 rfl ?_
      refine vLsn0 245 (by decide) i0_244 rfl rfl ?_
      refine vLin 246 i0_245 rfl rfl ?_
      refine vK 247 i0_246 rfl ?_
      refine vIadd 248 i0_247 rfl ?_
      refine vSal 249 rfl i0_248 rfl ?_
      refine vCallI 252 [.ref 0, vi ((sc.2 (Int.toNat (w32 (x3 + 1)))).toInt), vi ((sc.2 (Int.toNat (w32 (x3 + 2)))).toInt), vi ((sc.2 (Int.toNat (w32 (x3 + 3)))).toInt)] [] [(0, .ref 0), (1, vi ((sc.2 (Int.toNat (w32 (x3 + 1)))).toInt)), (2, vi ((sc.2 (Int.toNat (w32 (x3 + 2)))).toInt)), (3, vi ((sc.2 (Int.toNat (w32 (x3 + 3)))).toInt))] i0_249 rfl (xlk0 l0_26) (Or.inl rfl) m105 rfl rfl (Nat.le_of_ble_eq_true rfl) (Nat.le_of_ble_eq_true rfl) (Nat.le_of_ble_eq_true rfl) (xh0 sh_0 (by decide)) rfl rfl (fun R1 => c_x7_part N   (by omega) s ((sc.2 (Int.toNat (w32 (x3 + 1)))).toInt) ((sc.2 (Int.toNat (w32 (x3 + 2)))).toInt) ((sc.2 (Int.toNat (w32 (x3 + 3)))).toInt)) (fun s14 v15 => ?_)
      refine vD 253 i0_252 rfl rfl rfl ?_
      refine vLan 254 i0_253 rfl rfl ?_
      refine vLsn0 255 (by decide) i0_254 rfl rfl ?_
      refine vLin 256 i0_255 rfl rfl ?_
      refine vK 257 i0_256 rfl ?_
      refine vIadd 258 i0_257 rfl ?_
      refine vSal 259 rfl i0_258 rfl ?_
      refine vLsn0 260 (by decide) i0_259 rfl rfl ?_
      refine vLin 261 i0_260 rfl rfl ?_
      refine vK 262 i0_261 rfl ?_
      refine vIadd 263 i0_262 rfl ?_
      refine vSal 264 rfl i0_263 rfl ?_
      refine vLsn0 265 (by decide) i0_264 rfl rfl ?_
      refine vLin 266 i0_265 rfl rfl ?_
      refine vK 267 i0_266 rfl ?_
      refine vIadd 268 i0_267 rfl ?_
      refine vSal 269 rfl i0_268 rfl ?_
      refine vCallI 272 [.ref 77, vi ((sc.2 (Int.toNat (w32 (x3 + 1)))).toInt), vi ((sc.2 (Int.toNat (w32 (x3 + 2)))).toInt), vi ((sc.2 (Int.toNat (w32 (x3 + 3)))).toInt)] [] [(0, .ref 77), (1, vi ((sc.2 (Int.toNat (w32 (x3 + 1)))).toInt)), (2, vi ((sc.2 (Int.toNat (w32 (x3 + 2)))).toInt)), (3, vi ((sc.2 (Int.toNat (w32 (x3 + 3)))).toInt))] i0_269 rfl (xlk0 l0_30) (Or.inl rfl) m173 rfl rfl (Nat.le_of_ble_eq_true rfl) (Nat.le_of_ble_eq_true rfl) (Nat.le_of_ble_eq_true rfl) (xh0 sh_77 (by decide)) rfl rfl (fun R1 => c_x8_part N   (by omega) s14 ((sc.2 (Int.toNat (w32 (x3 + 1)))).toInt) ((sc.2 (Int.toNat (w32 (x3 + 2)))).toInt) ((sc.2 (Int.toNat (w32 (x3 + 3)))).toInt)) (fun s16 v17 => ?_)
      refine vD 273 i0_272 rfl rfl rfl ?_
      refine vGo 1221 i0_273 rfl ?_
      exact fun hD => c_law_1221 N sc  hd k18 hk18 s16 x3 hD
    refine vSw 276 (v := 4) rfl i0_33 rfl rfl ?_ (fun h4 => ?_)
    · refine vLan 277 i0_276 rfl rfl ?_
      refine vLsn0 278 (by decide) i0_277 rfl rfl ?_
      refine vLin 279 i0_278 rfl rfl ?_
      refine vK 280 i0_279 rfl ?_
      refine vIadd 281 i0_280 rfl ?_
      refine vSal 282 rfl i0_281 rfl ?_
      refine vLsn0 283 (by decide) i0_282 rfl rfl ?_
      refine vLin 284 i0_283 rfl rfl ?_
      refine vK 285 i0_284 rfl ?_
      refine vIadd 286 i0_285 rfl ?_
      refine vSal 287 rfl i0_286 rfl ?_
      refine vCallL 290 [.ref 0, vi ((sc.2 (Int.toNat (w32 (x3 + 1)))).toInt), vi ((sc.2 (Int.toNat (w32 (x3 + 2)))).toInt)] [] [(0, .ref 0), (1, vi ((sc.2 (Int.toNat (w32 (x3 + 1)))).toInt)), (2, vi ((sc.2 (Int.toNat (w32 (x3 + 2)))).toInt))] i0_287 rfl (xlk0 l0_31) (Or.inl rfl) m104 rfl rfl (Nat.le_of_ble_eq_true rfl) (Nat.le_of_ble_eq_true rfl) (Nat.le_of_ble_eq_true rfl) (xh0 sh_0 (by decide)) rfl rfl (fun R1 => c_x7_number N   (by omega) s ((sc.2 (Int.toNat (w32 (x3 + 1)))).toInt) ((sc.2 (Int.toNat (w32 (x3 + 2)))).toInt)) (fun s18 v19 => ?_)
      refine vD 291 i0_290 rfl rfl rfl ?_
      refine vLan 292 i0_291 rfl rfl ?_
      refine vLsn0 293 (by decide) i0_292 rfl rfl ?_
      refine vLin 294 i0_293 rfl rfl ?_
      refine vK 295 i0_294 rfl ?_
      refine vIadd 296 i0_295 rfl ?_
      refine vSal 297 rfl i0_296 rfl ?_
      refine vLsn0 298 (by decide) i0_297 rfl rfl ?_
      refine vLin 299 i0_298 rfl rfl ?_
      refine vK 300 i0_299 rfl ?_
      refine vIadd 301 i0_300 rfl ?_
      refine vSal 302 rfl i0_301 rfl ?_
      refine vCallL 305 [.ref 77, vi ((sc.2 (Int.toNat (w32 (x3 + 1)))).toInt), vi ((sc.2 (Int.toNat (w32 (x3 + 2)))).toInt)] [] [(0, .ref 77), (1, vi ((sc.2 (Int.toNat (w32 (x3 + 1)))).toInt)), (2, vi ((sc.2 (Int.toNat (w32 (x3 + 2)))).toInt))] i0_302 rfl (xlk0 l0_35) (Or.inl rfl) m169 rfl rfl (Nat.le_of_ble_eq_true rfl) (Nat.le_of_ble_eq_true rfl) (Nat.le_of_ble_eq_true rfl) (xh0 sh_77 (by decide)) rfl rfl (fun R1 => c_x8_number N   (by omega) s18 ((sc.2 (Int.toNat (w32 (x3 + 1)))).toInt) ((sc.2 (Int.toNat (w32 (x3 + 2)))).toInt)) (fun s20 v21 => ?_)
      refine vD 306 i0_305 rfl rfl rfl ?_
      refine vGo 1221 i0_306 rfl ?_
      exact fun hD => c_law_1221 N sc  hd k18 hk18 s20 x3 hD
    refine vSw 309 (v := 5) rfl i0_33 rfl rfl ?_ (fun h5 => ?_)
    · refine vLan 310 i0_309 rfl rfl ?_
      refine vLsn0 311 (by decide) i0_310 rfl rfl ?_
      refine vLin 312 i0_311 rfl rfl ?_
      refine vK 313 i0_312 rfl ?_
      refine vIadd 314 i0_313 rfl ?_
      refine vSal 315 rfl i0_314 rfl ?_
      refine vLsn0 316 (by decide) i0_315 rfl rfl ?_
      refine vLin 317 i0_316 rfl rfl ?_
      refine vK 318 i0_317 rfl ?_
      refine vIadd 319 i0_318 rfl ?_
      refine vSal 320 rfl i0_319 rfl ?_
      refine vLsn0 321 (by decide) i0_320 rfl rfl ?_
      refine vLin 322 i0_321 rfl rfl ?_
      refine vK 323 i0_322 rfl ?_
      refine vIadd 324 i0_323 rfl ?_
      refine vSal 325 rfl i0_324 rfl ?_
      refine vCallL 328 [.ref 0, vi ((sc.2 (Int.toNat (w32 (x3 + 1)))).toInt), vi ((sc.2 (Int.toNat (w32 (x3 + 2)))).toInt), vi ((sc.2 (Int.toNat (w32 (x3 + 3)))).toInt)] [] [(0, .ref 0), (1, vi ((sc.2 (Int.toNat (w32 (x3 + 1)))).toInt)), (2, vi ((sc.2 (Int.toNat (w32 (x3 + 2)))).toInt)), (3, vi ((sc.2 (Int.toNat (w32 (x3 + 3)))).toInt))] i0_325 rfl (xlk0 l0_36) (Or.inl rfl) m85 rfl rfl (Nat.le_of_ble_eq_true rfl) (Nat.le_of_ble_eq_true rfl) (Nat.le_of_ble_eq_true rfl) (xh0 sh_0 (by decide)) rfl rfl (fun R1 => c_x7_entry N   (by omega) s ((sc.2 (Int.toNat (w32 (x3 + 1)))).toInt) ((sc.2 (Int.toNat (w32 (x3 + 2)))).toInt) ((sc.2 (Int.toNat (w32 (x3 + 3)))).toInt)) (fun s22 v23 => ?_)
      refine vD 329 i0_328 rfl rfl rfl ?_
      refine vLan 330 i0_329 rfl rfl ?_
      refine vLsn0 331 (by decide) i0_330 rfl rfl ?_
      refine vLin 332 i0_331 rfl rfl ?_
      refine vK 333 i0_332 rfl ?_
      refine vIadd 334 i0_333 rfl ?_
      refine vSal 335 rfl i0_334 rfl ?_
      refine vLsn0 336 (by decide) i0_335 rfl rfl ?_
      refine vLin 337 i0_336 rfl rfl ?_
      refine vK 338 i0_337 rfl ?_
      refine vIadd 339 i0_338 rfl ?_
      refine vSal 340 rfl i0_339 rfl ?_
      refine vLsn0 341 (by decide) i0_340 rfl rfl ?_
      refine vLin 342 i0_341 rfl rfl ?_
      refine vK 343 i0_342 rfl ?_
      refine vIadd 344 i0_343 rfl ?_
      refine vSal 345 rfl i0_344 rfl ?_
      refine vCallL 348 [.ref 77, vi ((sc.2 (Int.toNat (w32 (x3 + 1)))).toInt), vi ((sc.2 (Int.toNat (w32 (x3 + 2)))).toInt), vi ((sc.2 (Int.toNat (w32 (x3 + 3)))).toInt)] [] [(0, .ref 77), (1, vi ((sc.2 (Int.toNat (w32 (x3 + 1)))).toInt)), (2, vi ((sc.2 (Int.toNat (w32 (x3 + 2)))).toInt)), (3, vi ((sc.2 (Int.toNat (w32 (x3 + 3)))).toInt))] i0_345 rfl (xlk0 l0_40) (Or.inl rfl) m129 rfl rfl (Nat.le_of_ble_eq_true rfl) (Nat.le_of_ble_eq_true rfl) (Nat.le_of_ble_eq_true rfl) (xh0 sh_77 (by decide)) rfl rfl (fun R1 => c_x8_entry N   (by omega) s22 ((sc.2 (Int.toNat (w32 (x3 + 1)))).toInt) ((sc.2 (Int.toNat (w32 (x3 + 2)))).toInt) ((sc.2 (Int.toNat (w32 (x3 + 3)))).toInt)) (fun s24 v25 => ?_)
      refine vD 349 i0_348 rfl rfl rfl ?_
      refine vGo 1221 i0_349 rfl ?_
      exact fun hD => c_law_1221 N sc  hd k18 hk18 s24 x3 hD
    refine vSw 352 (v := 6) rfl i0_33 rfl rfl ?_ (fun h6 => ?_)
    · refine vLan 353 i0_352 rfl rfl ?_
      refine vLsn0 354 (by decide) i0_353 rfl rfl ?_
      refine vLin 355 i0_354 rfl rfl ?_
      refine vK 356 i0_355 rfl ?_
      refine vIadd 357 i0_356 rfl ?_
      refine vSal 358 rfl i0_357 rfl ?_
      refine vLsn0 359 (by decide) i0_358 rfl rfl ?_
      refine vLin 360 i0_359 rfl rfl ?_
      refine vK 361 i0_360 rfl ?_
      refine vIadd 362 i0_361 rfl ?_
      refine vSal 363 rfl i0_362 rfl ?_
      refine vLsn0 364 (by decide) i0_363 rfl rfl ?_
      refine vLin 365 i0_364 rfl rfl ?_
      refine vK 366 i0_365 rfl ?_
      refine vIadd 367 i0_366 rfl ?_
      refine vSal 368 rfl i0_367 rfl ?_
      refine vCallI 371 [.ref 0, vi ((sc.2 (Int.toNat (w32 (x3 + 1)))).toInt), vi ((sc.2 (Int.toNat (w32 (x3 + 2)))).toInt), vi ((sc.2 (Int.toNat (w32 (x3 + 3)))).toInt)] [] [(0, .ref 0), (1, vi ((sc.2 (Int.toNat (w32 (x3 + 1)))).toInt)), (2, vi ((sc.2 (Int.toNat (w32 (x3 + 2)))).toInt)), (3, vi ((sc.2 (Int.toNat (w32 (x3 + 3)))).toInt))] i0_368 rfl (xlk0 l0_41) (Or.inl rfl) m119 rfl rfl (Nat.le_of_ble_eq_true rfl) (Nat.le_of_ble_eq_true rfl) (Nat.le_of_ble_eq_true rfl) (xh0 sh_0 (by decide)) rfl rfl (fun R1 => c_x7_twist N   (by omega) s ((sc.2 (Int.toNat (w32 (x3 + 1)))).toInt) ((sc.2 (Int.toNat (w32 (x3 + 2)))).toInt) ((sc.2 (Int.toNat (w32 (x3 + 3)))).toInt)) (fun s26 v27 => ?_)
      refine vD 372 i0_371 rfl rfl rfl ?_
      refine vLan 373 i0_372 rfl rfl ?_
      refine vLsn0 374 (by decide) i0_373 rfl rfl ?_
      refine vLin 375 i0_374 rfl rfl ?_
      refine vK 376 i0_375 rfl ?_
      refine vIadd 377 i0_376 rfl ?_
      refine vSal 378 rfl i0_377 rfl ?_
      refine vLsn0 379 (by decide) i0_378 rfl rfl ?_
      refine vLin 380 i0_379 rfl rfl ?_
      refine vK 381 i0_380 rfl ?_
      refine vIadd 382 i0_381 rfl ?_
      refine vSal 383 rfl i0_382 rfl ?_
      refine vLsn0 384 (by decide) i0_383 rfl rfl ?_
      refine vLin 385 i0_384 rfl rfl ?_
      refine vK 386 i0_385 rfl ?_
      refine vIadd 387 i0_386 rfl ?_
      refine vSal 388 rfl i0_387 rfl ?_
      refine vCallI 391 [.ref 77, vi ((sc.2 (Int.toNat (w32 (x3 + 1)))).toInt), vi ((sc.2 (Int.toNat (w32 (x3 + 2)))).toInt), vi ((sc.2 (Int.toNat (w32 (x3 + 3)))).toInt)] [] [(0, .ref 77), (1, vi ((sc.2 (Int.toNat (w32 (x3 + 1)))).toInt)), (2, vi ((sc.2 (Int.toNat (w32 (x3 + 2)))).toInt)), (3, vi ((sc.2 (Int.toNat (w32 (x3 + 3)))).toInt))] i0_388 rfl (xlk0 l0_44) (Or.inl rfl) m194 rfl rfl (Nat.le_of_ble_eq_true rfl) (Nat.le_of_ble_eq_true rfl) (Nat.le_of_ble_eq_true rfl) (xh0 sh_77 (by decide)) rfl rfl (fun R1 => c_x8_twist N   (by omega) s26 ((sc.2 (Int.toNat (w32 (x3 + 1)))).toInt) ((sc.2 (Int.toNat (w32 (x3 + 2)))).toInt) ((sc.2 (Int.toNat (w32 (x3 + 3)))).toInt)) (fun s28 v29 => ?_)
      refine vD 392 i0_391 rfl rfl rfl ?_
      refine vGo 1221 i0_392 rfl ?_
      exact fun hD => c_law_1221 N sc  hd k18 hk18 s28 x3 hD
    refine vSw 395 (v := 7) rfl i0_33 rfl rfl ?_ (fun h7 => ?_)
    · refine vLan 396 i0_395 rfl rfl ?_
      refine vLsn0 397 (by decide) i0_396 rfl rfl ?_
      refine vLin 398 i0_397 rfl rfl ?_
      refine vK 399 i0_398 rfl ?_
      refine vIadd 400 i0_399 rfl ?_
      refine vSal 401 rfl i0_400 rfl ?_
      refine vLsn0 402 (by decide) i0_401 rfl rfl ?_
      refine vLin 403 i0_402 rfl rfl ?_
      refine vK 404 i0_403 rfl ?_
      refine vIadd 405 i0_404 rfl ?_
      refine vSal 406 rfl i0_405 rfl ?_
      refine vLsn0 407 (by decide) i0_406 rfl rfl ?_
      refine vLin 408 i0_407 rfl rfl ?_
      refine vK 409 i0_408 rfl ?_
      refine vIadd 410 i0_409 rfl ?_
      refine vSal 411 rfl i0_410 rfl ?_
      refine vCallI 414 [.ref 0, vi ((sc.2 (Int.toNat (w32 (x3 + 1)))).toInt), vi ((sc.2 (Int.toNat (w32 (x3 + 2)))).toInt), vi ((sc.2 (Int.toNat (w32 (x3 + 3)))).toInt)] [] [(0, .ref 0), (1, vi ((sc.2 (Int.toNat (w32 (x3 + 1)))).toInt)), (2, vi ((sc.2 (Int.toNat (w32 (x3 + 2)))).toInt)), (3, vi ((sc.2 (Int.toNat (w32 (x3 + 3)))).toInt))] i0_411 rfl (xlk0 l0_45) (Or.inl rfl) m113 rfl rfl (Nat.le_of_ble_eq_true rfl) (Nat.le_of_ble_eq_true rfl) (Nat.le_of_ble_eq_true rfl) (xh0 sh_0 (by decide)) rfl rfl (fun R1 => c_x7_taken N   (by omega) s ((sc.2 (Int.toNat (w32 (x3 + 1)))).toInt) ((sc.2 (Int.toNat (w32 (x3 + 2)))).toInt) ((sc.2 (Int.toNat (w32 (x3 + 3)))).toInt)) (fun s30 v31 => ?_)
      refine vD 415 i0_414 rfl rfl rfl ?_
      refine vLan 416 i0_415 rfl rfl ?_
      refine vLsn0 417 (by decide) i0_416 rfl rfl ?_
      refine vLin 418 i0_417 rfl rfl ?_
      refine vK 419 i0_418 rfl ?_
      refine vIadd 420 i0_419 rfl ?_
      refine vSal 421 rfl i0_420 rfl ?_
      refine vLsn0 422 (by decide) i0_421 rfl rfl ?_
      refine vLin 423 i0_422 rfl rfl ?_
      refine vK 424 i0_423 rfl ?_
      refine vIadd 425 i0_424 rfl ?_
      refine vSal 426 rfl i0_425 rfl ?_
      refine vLsn0 427 (by decide) i0_426 rfl rfl ?_
      refine vLin 428 i0_427 rfl rfl ?_
      refine vK 429 i0_428 rfl ?_
      refine vIadd 430 i0_429 rfl ?_
      refine vSal 431 rfl i0_430 rfl ?_
      refine vCallI 434 [.ref 77, vi ((sc.2 (Int.toNat (w32 (x3 + 1)))).toInt), vi ((sc.2 (Int.toNat (w32 (x3 + 2)))).toInt), vi ((sc.2 (Int.toNat (w32 (x3 + 3)))).toInt)] [] [(0, .ref 77), (1, vi ((sc.2 (Int.toNat (w32 (x3 + 1)))).toInt)), (2, vi ((sc.2 (Int.toNat (w32 (x3 + 2)))).toInt)), (3, vi ((sc.2 (Int.toNat (w32 (x3 + 3)))).toInt))] i0_431 rfl (xlk0 l0_48) (Or.inl rfl) m186 rfl rfl (Nat.le_of_ble_eq_true rfl) (Nat.le_of_ble_eq_true rfl) (Nat.le_of_ble_eq_true rfl) (xh0 sh_77 (by decide)) rfl rfl (fun R1 => c_x8_taken N   (by omega) s30 ((sc.2 (Int.toNat (w32 (x3 + 1)))).toInt) ((sc.2 (Int.toNat (w32 (x3 + 2)))).toInt) ((sc.2 (Int.toNat (w32 (x3 + 3)))).toInt)) (fun s32 v33 => ?_)
      refine vD 435 i0_434 rfl rfl rfl ?_
      refine vGo 1221 i0_435 rfl ?_
      exact fun hD => c_law_1221 N sc  hd k18 hk18 s32 x3 hD
    refine vSw 438 (v := 8) rfl i0_33 rfl rfl ?_ (fun h8 => ?_)
    · refine vLan 439 i0_438 rfl rfl ?_
      refine vLsn0 440 (by decide) i0_439 rfl rfl ?_
      refine vLin 441 i0_440 rfl rfl ?_
      refine vK 442 i0_441 rfl ?_
      refine vIadd 443 i0_442 rfl ?_
      refine vSal 444 rfl i0_443 rfl ?_
      refine vLsn0 445 (by decide) i0_444 rfl rfl ?_
      refine vLin 446 i0_445 rfl rfl ?_
      refine vK 447 i0_446 rfl ?_
      refine vIadd 448 i0_447 rfl ?_
      refine vSal 449 rfl i0_448 rfl ?_
      refine vCallI 452 [.ref 0, vi ((sc.2 (Int.toNat (w32 (x3 + 1)))).toInt), vi ((sc.2 (Int.toNat (w32 (x3 + 2)))).toInt)] [] [(0, .ref 0), (1, vi ((sc.2 (Int.toNat (w32 (x3 + 1)))).toInt)), (2, vi ((sc.2 (Int.toNat (w32 (x3 + 2)))).toInt))] i0_449 rfl (xlk0 l0_49) (Or.inl rfl) m106 rfl rfl (Nat.le_of_ble_eq_true rfl) (Nat.le_of_ble_eq_true rfl) (Nat.le_of_ble_eq_true rfl) (xh0 sh_0 (by decide)) rfl rfl (fun R1 => c_x7_print N   (by omega) s ((sc.2 (Int.toNat (w32 (x3 + 1)))).toInt) ((sc.2 (Int.toNat (w32 (x3 + 2)))).toInt)) (fun s34 v35 => ?_)
      refine vD 453 i0_452 rfl rfl rfl ?_
      refine vLan 454 i0_453 rfl rfl ?_
      refine vLsn0 455 (by decide) i0_454 rfl rfl ?_
      refine vLin 456 i0_455 rfl rfl ?_
      refine vK 457 i0_456 rfl ?_
      refine vIadd 458 i0_457 rfl ?_
      refine vSal 459 rfl i0_458 rfl ?_
      refine vLsn0 460 (by decide) i0_459 rfl rfl ?_
      refine vLin 461 i0_460 rfl rfl ?_
      refine vK 462 i0_461 rfl ?_
      refine vIadd 463 i0_462 rfl ?_
      refine vSal 464 rfl i0_463 rfl ?_
      refine vCallI 467 [.ref 77, vi ((sc.2 (Int.toNat (w32 (x3 + 1)))).toInt), vi ((sc.2 (Int.toNat (w32 (x3 + 2)))).toInt)] [] [(0, .ref 77), (1, vi ((sc.2 (Int.toNat (w32 (x3 + 1)))).toInt)), (2, vi ((sc.2 (Int.toNat (w32 (x3 + 2)))).toInt))] i0_464 rfl (xlk0 l0_53) (Or.inl rfl) m177 rfl rfl (Nat.le_of_ble_eq_true rfl) (Nat.le_of_ble_eq_true rfl) (Nat.le_of_ble_eq_true rfl) (xh0 sh_77 (by decide)) rfl rfl (fun R1 => c_x8_print N   (by omega) s34 ((sc.2 (Int.toNat (w32 (x3 + 1)))).toInt) ((sc.2 (Int.toNat (w32 (x3 + 2)))).toInt)) (fun s36 v37 => ?_)
      refine vD 468 i0_467 rfl rfl rfl ?_
      refine vGo 1221 i0_468 rfl ?_
      exact fun hD => c_law_1221 N sc  hd k18 hk18 s36 x3 hD
    refine vSw 471 (v := 9) rfl i0_33 rfl rfl ?_ (fun h9 => ?_)
    · refine vLan 472 i0_471 rfl rfl ?_
      refine vLsn0 473 (by decide) i0_472 rfl rfl ?_
      refine vLin 474 i0_473 rfl rfl ?_
      refine vK 475 i0_474 rfl ?_
      refine vIadd 476 i0_475 rfl ?_
      refine vSal 477 rfl i0_476 rfl ?_
      refine vLsn0 478 (by decide) i0_477 rfl rfl ?_
      refine vLin 479 i0_478 rfl rfl ?_
      refine vK 480 i0_479 rfl ?_
      refine vIadd 481 i0_480 rfl ?_
      refine vSal 482 rfl i0_481 rfl ?_
      refine vCallI 485 [.ref 0, vi ((sc.2 (Int.toNat (w32 (x3 + 1)))).toInt), vi ((sc.2 (Int.toNat (w32 (x3 + 2)))).toInt)] [] [(0, .ref 0), (1, vi ((sc.2 (Int.toNat (w32 (x3 + 1)))).toInt)), (2, vi ((sc.2 (Int.toNat (w32 (x3 + 2)))).toInt))] i0_482 rfl (xlk0 l0_54) (Or.inl rfl) m118 rfl rfl (Nat.le_of_ble_eq_true rfl) (Nat.le_of_ble_eq_true rfl) (Nat.le_of_ble_eq_true rfl) (xh0 sh_0 (by decide)) rfl rfl (fun R1 => c_x7_there N   (by omega) s ((sc.2 (Int.toNat (w32 (x3 + 1)))).toInt) ((sc.2 (Int.toNat (w32 (x3 + 2)))).toInt)) (fun s38 v39 => ?_)
      refine vD 486 i0_485 rfl rfl rfl ?_
      refine vLan 487 i0_486 rfl rfl ?_
      refine vLsn0 488 (by decide) i0_487 rfl rfl ?_
      refine vLin 489 i0_488 rfl rfl ?_
      refine vK 490 i0_489 rfl ?_
      refine vIadd 491 i0_490 rfl ?_
      refine vSal 492 rfl i0_491 rfl ?_
      refine vLsn0 493 (by decide) i0_492 rfl rfl ?_
      refine vLin 494 i0_493 rfl rfl ?_
      refine vK 495 i0_494 rfl ?_
      refine vIadd 496 i0_495 rfl ?_
      refine vSal 497 rfl i0_496 rfl ?_
      refine vCallI 500 [.ref 77, vi ((sc.2 (Int.toNat (w32 (x3 + 1)))).toInt), vi ((sc.2 (Int.toNat (w32 (x3 + 2)))).toInt)] [] [(0, .ref 77), (1, vi ((sc.2 (Int.toNat (w32 (x3 + 1)))).toInt)), (2, vi ((sc.2 (Int.toNat (w32 (x3 + 2)))).toInt))] i0_497 rfl (xlk0 l0_57) (Or.inl rfl) m191 rfl rfl (Nat.le_of_ble_eq_true rfl) (Nat.le_of_ble_eq_true rfl) (Nat.le_of_ble_eq_true rfl) (xh0 sh_77 (by decide)) rfl rfl (fun R1 => c_x8_there N   (by omega) s38 ((sc.2 (Int.toNat (w32 (x3 + 1)))).toInt) ((sc.2 (Int.toNat (w32 (x3 + 2)))).toInt)) (fun s40 v41 => ?_)
      refine vD 501 i0_500 rfl rfl rfl ?_
      refine vGo 1221 i0_501 rfl ?_
      exact fun hD => c_law_1221 N sc  hd k18 hk18 s40 x3 hD
    refine vSw 504 (v := 10) rfl i0_33 rfl rfl ?_ (fun h10 => ?_)
    · refine vLan 505 i0_504 rfl rfl ?_
      refine vLsn0 506 (by decide) i0_505 rfl rfl ?_
      refine vLin 507 i0_506 rfl rfl ?_
      refine vK 508 i0_507 rfl ?_
      refine vIadd 509 i0_508 rfl ?_
      refine vSal 510 rfl i0_509 rfl ?_
      refine vLsn0 511 (by decide) i0_510 rfl rfl ?_
      refine vLin 512 i0_511 rfl rfl ?_
      refine vK 513 i0_512 rfl ?_
      refine vIadd 514 i0_513 rfl ?_
      refine vSal 515 rfl i0_514 rfl ?_
      refine vCallI 518 [.ref 0, vi ((sc.2 (Int.toNat (w32 (x3 + 1)))).toInt), vi ((sc.2 (Int.toNat (w32 (x3 + 2)))).toInt)] [] [(0, .ref 0), (1, vi ((sc.2 (Int.toNat (w32 (x3 + 1)))).toInt)), (2, vi ((sc.2 (Int.toNat (w32 (x3 + 2)))).toInt))] i0_515 rfl (xlk0 l0_58) (Or.inl rfl) m94 rfl rfl (Nat.le_of_ble_eq_true rfl) (Nat.le_of_ble_eq_true rfl) (Nat.le_of_ble_eq_true rfl) (xh0 sh_0 (by decide)) rfl rfl (fun R1 => c_x7_is N   (by omega) s ((sc.2 (Int.toNat (w32 (x3 + 1)))).toInt) ((sc.2 (Int.toNat (w32 (x3 + 2)))).toInt)) (fun s42 v43 => ?_)
      refine vD 519 i0_518 rfl rfl rfl ?_
      refine vLan 520 i0_519 rfl rfl ?_
      refine vLsn0 521 (by decide) i0_520 rfl rfl ?_
      refine vLin 522 i0_521 rfl rfl ?_
      refine vK 523 i0_522 rfl ?_
      refine vIadd 524 i0_523 rfl ?_
      refine vSal 525 rfl i0_524 rfl ?_
      refine vLsn0 526 (by decide) i0_525 rfl rfl ?_
      refine vLin 527 i0_526 rfl rfl ?_
      refine vK 528 i0_527 rfl ?_
      refine vIadd 529 i0_528 rfl ?_
      refine vSal 530 rfl i0_529 rfl ?_
      refine vCallI 533 [.ref 77, vi ((sc.2 (Int.toNat (w32 (x3 + 1)))).toInt), vi ((sc.2 (Int.toNat (w32 (x3 + 2)))).toInt)] [] [(0, .ref 77), (1, vi ((sc.2 (Int.toNat (w32 (x3 + 1)))).toInt)), (2, vi ((sc.2 (Int.toNat (w32 (x3 + 2)))).toInt))] i0_530 rfl (xlk0 l0_61) (Or.inl rfl) m144 rfl rfl (Nat.le_of_ble_eq_true rfl) (Nat.le_of_ble_eq_true rfl) (Nat.le_of_ble_eq_true rfl) (xh0 sh_77 (by decide)) rfl rfl (fun R1 => c_x8_is N   (by omega) s42 ((sc.2 (Int.toNat (w32 (x3 + 1)))).toInt) ((sc.2 (Int.toNat (w32 (x3 + 2)))).toInt)) (fun s44 v45 => ?_)
      refine vD 534 i0_533 rfl rfl rfl ?_
      refine vGo 1221 i0_534 rfl ?_
      exact fun hD => c_law_1221 N sc  hd k18 hk18 s44 x3 hD
    refine vSw 537 (v := 11) rfl i0_33 rfl rfl ?_ (fun h11 => ?_)
    · refine vLan 538 i0_537 rfl rfl ?_
      refine vLsn0 539 (by decide) i0_538 rfl rfl ?_
      refine vLin 540 i0_539 rfl rfl ?_
      refine vK 541 i0_540 rfl ?_
      refine vIadd 542 i0_541 rfl ?_
      refine vSal 543 rfl i0_542 rfl ?_
      refine vLsn0 544 (by decide) i0_543 rfl rfl ?_
      refine vLin 545 i0_544 rfl rfl ?_
      refine vK 546 i0_545 rfl ?_
      refine vIadd 547 i0_546 rfl ?_
      refine vSal 548 rfl i0_547 rfl ?_
      refine vCallL 551 [.ref 0, vi ((sc.2 (Int.toNat (w32 (x3 + 1)))).toInt), vi ((sc.2 (Int.toNat (w32 (x3 + 2)))).toInt)] [] [(0, .ref 0), (1, vi ((sc.2 (Int.toNat (w32 (x3 + 1)))).toInt)), (2, vi ((sc.2 (Int.toNat (w32 (x3 + 2)))).toInt))] i0_548 rfl (xlk0 l0_62) (Or.inl rfl) m91 rfl rfl (Nat.le_of_ble_eq_true rfl) (Nat.le_of_ble_eq_true rfl) (Nat.le_of_ble_eq_true rfl) (xh0 sh_0 (by decide)) rfl rfl (fun R1 => c_x7_head N   (by omega) s ((sc.2 (Int.toNat (w32 (x3 + 1)))).toInt) ((sc.2 (Int.toNat (w32 (x3 + 2)))).toInt)) (fun s46 v47 => ?_)
      refine vD 552 i0_551 rfl rfl rfl ?_
      refine vLan 553 i0_552 rfl rfl ?_
      refine vLsn0 554 (by decide) i0_553 rfl rfl ?_
      refine vLin 555 i0_554 rfl rfl ?_
      refine vK 556 i0_555 rfl ?_
      refine vIadd 557 i0_556 rfl ?_
      refine vSal 558 rfl i0_557 rfl ?_
      refine vLsn0 559 (by decide) i0_558 rfl rfl ?_
      refine vLin 560 i0_559 rfl rfl ?_
      refine vK 561 i0_560 rfl ?_
      refine vIadd 562 i0_561 rfl ?_
      refine vSal 563 rfl i0_562 rfl ?_
      refine vCallL 566 [.ref 77, vi ((sc.2 (Int.toNat (w32 (x3 + 1)))).toInt), vi ((sc.2 (Int.toNat (w32 (x3 + 2)))).toInt)] [] [(0, .ref 77), (1, vi ((sc.2 (Int.toNat (w32 (x3 + 1)))).toInt)), (2, vi ((sc.2 (Int.toNat (w32 (x3 + 2)))).toInt))] i0_563 rfl (xlk0 l0_65) (Or.inl rfl) m139 rfl rfl (Nat.le_of_ble_eq_true rfl) (Nat.le_of_ble_eq_true rfl) (Nat.le_of_ble_eq_true rfl) (xh0 sh_77 (by decide)) rfl rfl (fun R1 => c_x8_head N   (by omega) s46 ((sc.2 (Int.toNat (w32 (x3 + 1)))).toInt) ((sc.2 (Int.toNat (w32 (x3 + 2)))).toInt)) (fun s48 v49 => ?_)
      refine vD 567 i0_566 rfl rfl rfl ?_
      refine vGo 1221 i0_567 rfl ?_
      exact fun hD => c_law_1221 N sc  hd k18 hk18 s48 x3 hD
    refine vSw 570 (v := 12) rfl i0_33 rfl rfl ?_ (fun h12 => ?_)
    · refine vLan 571 i0_570 rfl rfl ?_
      refine vLsn0 572 (by decide) i0_571 rfl rfl ?_
      refine vLin 573 i0_572 rfl rfl ?_
      refine vK 574 i0_573 rfl ?_
      refine vIadd 575 i0_574 rfl ?_
      refine vSal 576 rfl i0_575 rfl ?_
      refine vLsn0 577 (by decide) i0_576 rfl rfl ?_
      refine vLin 578 i0_577 rfl rfl ?_
      refine vK 579 i0_578 rfl ?_
      refine vIadd 580 i0_579 rfl ?_
      refine vSal 581 rfl i0_580 rfl ?_
      refine vCallI 584 [.ref 0, vi ((sc.2 (Int.toNat (w32 (x3 + 1)))).toInt), vi ((sc.2 (Int.toNat (w32 (x3 + 2)))).toInt)] [] [(0, .ref 0), (1, vi ((sc.2 (Int.toNat (w32 (x3 + 1)))).toInt)), (2, vi ((sc.2 (Int.toNat (w32 (x3 + 2)))).toInt))] i0_581 rfl (xlk0 l0_66) (Or.inl rfl) m103 rfl rfl (Nat.le_of_ble_eq_true rfl) (Nat.le_of_ble_eq_true rfl) (Nat.le_of_ble_eq_true rfl) (xh0 sh_0 (by decide)) rfl rfl (fun R1 => c_x7_need N   (by omega) s ((sc.2 (Int.toNat (w32 (x3 + 1)))).toInt) ((sc.2 (Int.toNat (w32 (x3 + 2)))).toInt)) (fun s50 v51 => ?_)
      refine vD 585 i0_584 rfl rfl rfl ?_
      refine vLan 586 i0_585 rfl rfl ?_
      refine vLsn0 587 (by decide) i0_586 rfl rfl ?_
      refine vLin 588 i0_587 rfl rfl ?_
      refine vK 589 i0_588 rfl ?_
      refine vIadd 590 i0_589 rfl ?_
      refine vSal 591 rfl i0_590 rfl ?_
      refine vLsn0 592 (by decide) i0_591 rfl rfl ?_
      refine vLin 593 i0_592 rfl rfl ?_
      refine vK 594 i0_593 rfl ?_
      refine vIadd 595 i0_594 rfl ?_
      refine vSal 596 rfl i0_595 rfl ?_
      refine vCallI 599 [.ref 77, vi ((sc.2 (Int.toNat (w32 (x3 + 1)))).toInt), vi ((sc.2 (Int.toNat (w32 (x3 + 2)))).toInt)] [] [(0, .ref 77), (1, vi ((sc.2 (Int.toNat (w32 (x3 + 1)))).toInt)), (2, vi ((sc.2 (Int.toNat (w32 (x3 + 2)))).toInt))] i0_596 rfl (xlk0 l0_69) (Or.inl rfl) m166 rfl rfl (Nat.le_of_ble_eq_true rfl) (Nat.le_of_ble_eq_true rfl) (Nat.le_of_ble_eq_true rfl) (xh0 sh_77 (by decide)) rfl rfl (fun R1 => c_x8_need N   (by omega) s50 ((sc.2 (Int.toNat (w32 (x3 + 1)))).toInt) ((sc.2 (Int.toNat (w32 (x3 + 2)))).toInt)) (fun s52 v53 => ?_)
      refine vD 600 i0_599 rfl rfl rfl ?_
      refine vGo 1221 i0_600 rfl ?_
      exact fun hD => c_law_1221 N sc  hd k18 hk18 s52 x3 hD
    refine vSw 603 (v := 13) rfl i0_33 rfl rfl ?_ (fun h13 => ?_)
    · refine vLan 604 i0_603 rfl rfl ?_
      refine vLsn0 605 (by decide) i0_604 rfl rfl ?_
      refine vLin 606 i0_605 rfl rfl ?_
      refine vK 607 i0_606 rfl ?_
      refine vIadd 608 i0_607 rfl ?_
      refine vSal 609 rfl i0_608 rfl ?_
      refine vCallI 612 [.ref 0, vi ((sc.2 (Int.toNat (w32 (x3 + 1)))).toInt)] [] [(0, .ref 0), (1, vi ((sc.2 (Int.toNat (w32 (x3 + 1)))).toInt))] i0_609 rfl (xlk0 l0_70) (Or.inl rfl) m102 rfl rfl (Nat.le_of_ble_eq_true rfl) (Nat.le_of_ble_eq_true rfl) (Nat.le_of_ble_eq_true rfl) (xh0 sh_0 (by decide)) rfl rfl (fun R1 => c_x7_limit N   (by omega) s ((sc.2 (Int.toNat (w32 (x3 + 1)))).toInt)) (fun s54 v55 => ?_)
      refine vD 613 i0_612 rfl rfl rfl ?_
      refine vLan 614 i0_613 rfl rfl ?_
      refine vLsn0 615 (by decide) i0_614 rfl rfl ?_
      refine vLin 616 i0_615 rfl rfl ?_
      refine vK 617 i0_616 rfl ?_
      refine vIadd 618 i0_617 rfl ?_
      refine vSal 619 rfl i0_618 rfl ?_
      refine vCallI 622 [.ref 77, vi ((sc.2 (Int.toNat (w32 (x3 + 1)))).toInt)] [] [(0, .ref 77), (1, vi ((sc.2 (Int.toNat (w32 (x3 + 1)))).toInt))] i0_619 rfl (xlk0 l0_73) (Or.inl rfl) m163 rfl rfl (Nat.le_of_ble_eq_true rfl) (Nat.le_of_ble_eq_true rfl) (Nat.le_of_ble_eq_true rfl) (xh0 sh_77 (by decide)) rfl rfl (fun R1 => c_x8_limit N   (by omega) s54 ((sc.2 (Int.toNat (w32 (x3 + 1)))).toInt)) (fun s56 v57 => ?_)
      refine vD 623 i0_622 rfl rfl rfl ?_
      refine vGo 1221 i0_623 rfl ?_
      exact fun hD => c_law_1221 N sc  hd k18 hk18 s56 x3 hD
    refine vSw 626 (v := 14) rfl i0_33 rfl rfl ?_ (fun h14 => ?_)
    · refine vLan 627 i0_626 rfl rfl ?_
      refine vCallI 630 [.ref 0] [] [(0, .ref 0)] i0_627 rfl (xlk0 l0_74) (Or.inl rfl) m89 rfl rfl (Nat.le_of_ble_eq_true rfl) (Nat.le_of_ble_eq_true rfl) (Nat.le_of_ble_eq_true rfl) (xh0 sh_0 (by decide)) rfl rfl (fun R1 => c_x7_forget N   (by omega) s ) (fun s58 v59 => ?_)
      refine vD 631 i0_630 rfl rfl rfl ?_
      refine vLan 632 i0_631 rfl rfl ?_
      refine vCallI 635 [.ref 77] [] [(0, .ref 77)] i0_632 rfl (xlk0 l0_78) (Or.inl rfl) m135 rfl rfl (Nat.le_of_ble_eq_true rfl) (Nat.le_of_ble_eq_true rfl) (Nat.le_of_ble_eq_true rfl) (xh0 sh_77 (by decide)) rfl rfl (fun R1 => c_x8_forget N   (by omega) s58 ) (fun s60 v61 => ?_)
      refine vD 636 i0_635 rfl rfl rfl ?_
      refine vGo 1221 i0_636 rfl ?_
      exact fun hD => c_law_1221 N sc  hd k18 hk18 s60 x3 hD
    refine vSw 639 (v := 15) rfl i0_33 rfl rfl ?_ (fun h15 => ?_)
    · refine vLan 640 i0_639 rfl rfl ?_
      refine vLsn0 641 (by decide) i0_640 rfl rfl ?_
      refine vLin 642 i0_641 rfl rfl ?_
      refine vK 643 i0_642 rfl ?_
      refine vIadd 644 i0_643 rfl ?_
      refine vSal 645 rfl i0_644 rfl ?_
      refine vLsn0 646 (by decide) i0_645 rfl rfl ?_
      refine vLin 647 i0_646 rfl rfl ?_
      refine vK 648 i0_647 rfl ?_
      refine vIadd 649 i0_648 rfl ?_
      refine vSal 650 rfl i0_649 rfl ?_
      refine vCallL 653 [.ref 0, vi ((sc.2 (Int.toNat (w32 (x3 + 1)))).toInt), vi ((sc.2 (Int.toNat (w32 (x3 + 2)))).toInt)] [] [(0, .ref 0), (1, vi ((sc.2 (Int.toNat (w32 (x3 + 1)))).toInt)), (2, vi ((sc.2 (Int.toNat (w32 (x3 + 2)))).toInt))] i0_650 rfl (xlk0 l0_79) (Or.inl rfl) m112 rfl rfl (Nat.le_of_ble_eq_true rfl) (Nat.le_of_ble_eq_true rfl) (Nat.le_of_ble_eq_true rfl) (xh0 sh_0 (by decide)) rfl rfl (fun R1 => c_x7_sum N   (by omega) s ((sc.2 (Int.toNat (w32 (x3 + 1)))).toInt) ((sc.2 (Int.toNat (w32 (x3 + 2)))).toInt)) (fun s62 v63 => ?_)
      refine vD 654 i0_653 rfl rfl rfl ?_
      refine vLan 655 i0_654 rfl rfl ?_
      refine vLsn0 656 (by decide) i0_655 rfl rfl ?_
      refine vLin 657 i0_656 rfl rfl ?_
      refine vK 658 i0_657 rfl ?_
      refine vIadd 659 i0_658 rfl ?_
      refine vSal 660 rfl i0_659 rfl ?_
      refine vLsn0 661 (by decide) i0_660 rfl rfl ?_
      refine vLin 662 i0_661 rfl rfl ?_
      refine vK 663 i0_662 rfl ?_
      refine vIadd 664 i0_663 rfl ?_
      refine vSal 665 rfl i0_664 rfl ?_
      refine vCallL 668 [.ref 77, vi ((sc.2 (Int.toNat (w32 (x3 + 1)))).toInt), vi ((sc.2 (Int.toNat (w32 (x3 + 2)))).toInt)] [] [(0, .ref 77), (1, vi ((sc.2 (Int.toNat (w32 (x3 + 1)))).toInt)), (2, vi ((sc.2 (Int.toNat (w32 (x3 + 2)))).toInt))] i0_665 rfl (xlk0 l0_82) (Or.inl rfl) m185 rfl rfl (Nat.le_of_ble_eq_true rfl) (Nat.le_of_ble_eq_true rfl) (Nat.le_of_ble_eq_true rfl) (xh0 sh_77 (by decide)) rfl rfl (fun R1 => c_x8_sum N   (by omega) s62 ((sc.2 (Int.toNat (w32 (x3 + 1)))).toInt) ((sc.2 (Int.toNat (w32 (x3 + 2)))).toInt)) (fun s64 v65 => ?_)
      refine vD 669 i0_668 rfl rfl rfl ?_
      refine vGo 1221 i0_669 rfl ?_
      exact fun hD => c_law_1221 N sc  hd k18 hk18 s64 x3 hD
    refine vSw 672 (v := 16) rfl i0_33 rfl rfl ?_ (fun h16 => ?_)
    · refine vLan 673 i0_672 rfl rfl ?_
      refine vLsn0 674 (by decide) i0_673 rfl rfl ?_
      refine vLin 675 i0_674 rfl rfl ?_
      refine vK 676 i0_675 rfl ?_
      refine vIadd 677 i0_676 rfl ?_
      refine vSal 678 rfl i0_677 rfl ?_
      refine vLsn0 679 (by decide) i0_678 rfl rfl ?_
      refine vLin 680 i0_679 rfl rfl ?_
      refine vK 681 i0_680 rfl ?_
      refine vIadd 682 i0_681 rfl ?_
      refine vSal 683 rfl i0_682 rfl ?_
      refine vI2l 684 i0_683 rfl ?_
      refine vKb 686 i0_684 (by decide) rfl ?_
      refine vLshl 687 i0_686 rfl ?_
      refine vLsn0 688 (by decide) i0_687 rfl rfl ?_
      refine vLin 689 i0_688 rfl rfl ?_
      refine vK 690 i0_689 rfl ?_
      refine vIadd 691 i0_690 rfl ?_
      refine vSal 692 rfl i0_691 rfl ?_
      refine vI2l 693 i0_692 rfl ?_
      refine vKd 696 i0_693 c0_83 rfl ?_
      refine vLand 697 i0_696 rfl ?_
      refine vLor 698 i0_697 rfl ?_
      refine vLsn0 699 (by decide) i0_698 rfl rfl ?_
      refine vLin 700 i0_699 rfl rfl ?_
      refine vK 701 i0_700 rfl ?_
      refine vIadd 702 i0_701 rfl ?_
      refine vSal 703 rfl i0_702 rfl ?_
      refine vCallI 706 [.ref 0, vi ((sc.2 (Int.toNat (w32 (x3 + 1)))).toInt), vl (or64 (shl64 (w32 ((sc.2 (Int.toNat (w32 (x3 + 2)))).toInt)) 32) (and64 (w32 ((sc.2 (Int.toNat (w32 (x3 + 3)))).toInt)) 4294967295)), vi ((sc.2 (Int.toNat (w32 (x3 + 4)))).toInt)] [] [(0, .ref 0), (1, vi ((sc.2 (Int.toNat (w32 (x3 + 1)))).toInt)), (2, vl (or64 (shl64 (w32 ((sc.2 (Int.toNat (w32 (x3 + 2)))).toInt)) 32) (and64 (w32 ((sc.2 (Int.toNat (w32 (x3 + 3)))).toInt)) 4294967295))), (4, vi ((sc.2 (Int.toNat (w32 (x3 + 4)))).toInt))] i0_703 rfl (xlk0 l0_85) (Or.inl rfl) m88 rfl rfl (Nat.le_of_ble_eq_true rfl) (Nat.le_of_ble_eq_true rfl) (Nat.le_of_ble_eq_true rfl) (xh0 sh_0 (by decide)) rfl rfl (fun R1 => c_x7_find N   (by omega) s ((sc.2 (Int.toNat (w32 (x3 + 1)))).toInt) (or64 (shl64 (w32 ((sc.2 (Int.toNat (w32 (x3 + 2)))).toInt)) 32) (and64 (w32 ((sc.2 (Int.toNat (w32 (x3 + 3)))).toInt)) 4294967295)) ((sc.2 (Int.toNat (w32 (x3 + 4)))).toInt)) (fun s66 v67 => ?_)
      refine vD 707 i0_706 rfl rfl rfl ?_
      refine vLan 708 i0_707 rfl rfl ?_
      refine vLsn0 709 (by decide) i0_708 rfl rfl ?_
      refine vLin 710 i0_709 rfl rfl ?_
      refine vK 711 i0_710 rfl ?_
      refine vIadd 712 i0_711 rfl ?_
      refine vSal 713 rfl i0_712 rfl ?_
      refine vLsn0 714 (by decide) i0_713 rfl rfl ?_
      refine vLin 715 i0_714 rfl rfl ?_
      refine vK 716 i0_715 rfl ?_
      refine vIadd 717 i0_716 rfl ?_
      refine vSal 718 rfl i0_717 rfl ?_
      refine vI2l 719 i0_718 rfl ?_
      refine vKb 721 i0_719 (by decide) rfl ?_
      refine vLshl 722 i0_721 rfl ?_
      refine vLsn0 723 (by decide) i0_722 rfl rfl ?_
      refine vLin 724 i0_723 rfl rfl ?_
      refine vK 725 i0_724 rfl ?_
      refine vIadd 726 i0_725 rfl ?_
      refine vSal 727 rfl i0_726 rfl ?_
      refine vI2l 728 i0_727 rfl ?_
      refine vKd 731 i0_728 c0_83 rfl ?_
      refine vLand 732 i0_731 rfl ?_
      refine vLor 733 i0_732 rfl ?_
      refine vLsn0 734 (by decide) i0_733 rfl rfl ?_
      refine vLin 735 i0_734 rfl rfl ?_
      refine vK 736 i0_735 rfl ?_
      refine vIadd 737 i0_736 rfl ?_
      refine vSal 738 rfl i0_737 rfl ?_
      refine vCallI 741 [.ref 77, vi ((sc.2 (Int.toNat (w32 (x3 + 1)))).toInt), vl (or64 (shl64 (w32 ((sc.2 (Int.toNat (w32 (x3 + 2)))).toInt)) 32) (and64 (w32 ((sc.2 (Int.toNat (w32 (x3 + 3)))).toInt)) 4294967295)), vi ((sc.2 (Int.toNat (w32 (x3 + 4)))).toInt)] [] [(0, .ref 77), (1, vi ((sc.2 (Int.toNat (w32 (x3 + 1)))).toInt)), (2, vl (or64 (shl64 (w32 ((sc.2 (Int.toNat (w32 (x3 + 2)))).toInt)) 32) (and64 (w32 ((sc.2 (Int.toNat (w32 (x3 + 3)))).toInt)) 4294967295))), (4, vi ((sc.2 (Int.toNat (w32 (x3 + 4)))).toInt))] i0_738 rfl (xlk0 l0_89) (Or.inl rfl) m133 rfl rfl (Nat.le_of_ble_eq_true rfl) (Nat.le_of_ble_eq_true rfl) (Nat.le_of_ble_eq_true rfl) (xh0 sh_77 (by decide)) rfl rfl (fun R1 => c_x8_find N   (by omega) s66 ((sc.2 (Int.toNat (w32 (x3 + 1)))).toInt) (or64 (shl64 (w32 ((sc.2 (Int.toNat (w32 (x3 + 2)))).toInt)) 32) (and64 (w32 ((sc.2 (Int.toNat (w32 (x3 + 3)))).toInt)) 4294967295)) ((sc.2 (Int.toNat (w32 (x3 + 4)))).toInt)) (fun s68 v69 => ?_)
      refine vD 742 i0_741 rfl rfl rfl ?_
      refine vGo 1221 i0_742 rfl ?_
      exact fun hD => c_law_1221 N sc  hd k18 hk18 s68 x3 hD
    refine vSw 745 (v := 17) rfl i0_33 rfl rfl ?_ (fun h17 => ?_)
    · refine vLan 746 i0_745 rfl rfl ?_
      refine vLsn0 747 (by decide) i0_746 rfl rfl ?_
      refine vLin 748 i0_747 rfl rfl ?_
      refine vK 749 i0_748 rfl ?_
      refine vIadd 750 i0_749 rfl ?_
      refine vSal 751 rfl i0_750 rfl ?_
      refine vLsn0 752 (by decide) i0_751 rfl rfl ?_
      refine vLin 753 i0_752 rfl rfl ?_
      refine vK 754 i0_753 rfl ?_
      refine vIadd 755 i0_754 rfl ?_
      refine vSal 756 rfl i0_755 rfl ?_
      refine vLsn0 757 (by decide) i0_756 rfl rfl ?_
      refine vLin 758 i0_757 rfl rfl ?_
      refine vK 759 i0_758 rfl ?_
      refine vIadd 760 i0_759 rfl ?_
      refine vSal 761 rfl i0_760 rfl ?_
      refine vCallI 764 [.ref 0, vi ((sc.2 (Int.toNat (w32 (x3 + 1)))).toInt), vi ((sc.2 (Int.toNat (w32 (x3 + 2)))).toInt), vi ((sc.2 (Int.toNat (w32 (x3 + 3)))).toInt)] [] [(0, .ref 0), (1, vi ((sc.2 (Int.toNat (w32 (x3 + 1)))).toInt)), (2, vi ((sc.2 (Int.toNat (w32 (x3 + 2)))).toInt)), (3, vi ((sc.2 (Int.toNat (w32 (x3 + 3)))).toInt))] i0_761 rfl (xlk0 l0_90) (Or.inl rfl) m83 rfl rfl (Nat.le_of_ble_eq_true rfl) (Nat.le_of_ble_eq_true rfl) (Nat.le_of_ble_eq_true rfl) (xh0 sh_0 (by decide)) rfl rfl (fun R1 => c_x7_differ N   (by omega) s ((sc.2 (Int.toNat (w32 (x3 + 1)))).toInt) ((sc.2 (Int.toNat (w32 (x3 + 2)))).toInt) ((sc.2 (Int.toNat (w32 (x3 + 3)))).toInt)) (fun s70 v71 => ?_)
      refine vD 765 i0_764 rfl rfl rfl ?_
      refine vLan 766 i0_765 rfl rfl ?_
      refine vLsn0 767 (by decide) i0_766 rfl rfl ?_
      refine vLin 768 i0_767 rfl rfl ?_
      refine vK 769 i0_768 rfl ?_
      refine vIadd 770 i0_769 rfl ?_
      refine vSal 771 rfl i0_770 rfl ?_
      refine vLsn0 772 (by decide) i0_771 rfl rfl ?_
      refine vLin 773 i0_772 rfl rfl ?_
      refine vK 774 i0_773 rfl ?_
      refine vIadd 775 i0_774 rfl ?_
      refine vSal 776 rfl i0_775 rfl ?_
      refine vLsn0 777 (by decide) i0_776 rfl rfl ?_
      refine vLin 778 i0_777 rfl rfl ?_
      refine vK 779 i0_778 rfl ?_
      refine vIadd 780 i0_779 rfl ?_
      refine vSal 781 rfl i0_780 rfl ?_
      refine vCallI 784 [.ref 77, vi ((sc.2 (Int.toNat (w32 (x3 + 1)))).toInt), vi ((sc.2 (Int.toNat (w32 (x3 + 2)))).toInt), vi ((sc.2 (Int.toNat (w32 (x3 + 3)))).toInt)] [] [(0, .ref 77), (1, vi ((sc.2 (Int.toNat (w32 (x3 + 1)))).toInt)), (2, vi ((sc.2 (Int.toNat (w32 (x3 + 2)))).toInt)), (3, vi ((sc.2 (Int.toNat (w32 (x3 + 3)))).toInt))] i0_781 rfl (xlk0 l0_93) (Or.inl rfl) m126 rfl rfl (Nat.le_of_ble_eq_true rfl) (Nat.le_of_ble_eq_true rfl) (Nat.le_of_ble_eq_true rfl) (xh0 sh_77 (by decide)) rfl rfl (fun R1 => c_x8_differ N   (by omega) s70 ((sc.2 (Int.toNat (w32 (x3 + 1)))).toInt) ((sc.2 (Int.toNat (w32 (x3 + 2)))).toInt) ((sc.2 (Int.toNat (w32 (x3 + 3)))).toInt)) (fun s72 v73 => ?_)
      refine vD 785 i0_784 rfl rfl rfl ?_
      refine vGo 1221 i0_785 rfl ?_
      exact fun hD => c_law_1221 N sc  hd k18 hk18 s72 x3 hD
    refine vSw 788 (v := 18) rfl i0_33 rfl rfl ?_ (fun h18 => ?_)
    · refine vLan 789 i0_788 rfl rfl ?_
      refine vLsn0 790 (by decide) i0_789 rfl rfl ?_
      refine vLin 791 i0_790 rfl rfl ?_
      refine vK 792 i0_791 rfl ?_
      refine vIadd 793 i0_792 rfl ?_
      refine vSal 794 rfl i0_793 rfl ?_
      refine vCallI 797 [.ref 0, vi ((sc.2 (Int.toNat (w32 (x3 + 1)))).toInt)] [] [(0, .ref 0), (1, vi ((sc.2 (Int.toNat (w32 (x3 + 1)))).toInt))] i0_794 rfl (xlk0 l0_94) (Or.inl rfl) m110 rfl rfl (Nat.le_of_ble_eq_true rfl) (Nat.le_of_ble_eq_true rfl) (Nat.le_of_ble_eq_true rfl) (xh0 sh_0 (by decide)) rfl rfl (fun R1 => c_x7_rises N   (by omega) s ((sc.2 (Int.toNat (w32 (x3 + 1)))).toInt)) (fun s74 v75 => ?_)
      refine vD 798 i0_797 rfl rfl rfl ?_
      refine vLan 799 i0_798 rfl rfl ?_
      refine vLsn0 800 (by decide) i0_799 rfl rfl ?_
      refine vLin 801 i0_800 rfl rfl ?_
      refine vK 802 i0_801 rfl ?_
      refine vIadd 803 i0_802 rfl ?_
      refine vSal 804 rfl i0_803 rfl ?_
      refine vCallI 807 [.ref 77, vi ((sc.2 (Int.toNat (w32 (x3 + 1)))).toInt)] [] [(0, .ref 77), (1, vi ((sc.2 (Int.toNat (w32 (x3 + 1)))).toInt))] i0_804 rfl (xlk0 l0_97) (Or.inl rfl) m181 rfl rfl (Nat.le_of_ble_eq_true rfl) (Nat.le_of_ble_eq_true rfl) (Nat.le_of_ble_eq_true rfl) (xh0 sh_77 (by decide)) rfl rfl (fun R1 => c_x8_rises N   (by omega) s74 ((sc.2 (Int.toNat (w32 (x3 + 1)))).toInt)) (fun s76 v77 => ?_)
      refine vD 808 i0_807 rfl rfl rfl ?_
      refine vGo 1221 i0_808 rfl ?_
      exact fun hD => c_law_1221 N sc  hd k18 hk18 s76 x3 hD
    refine vSw 811 (v := 19) rfl i0_33 rfl rfl ?_ (fun h19 => ?_)
    · refine vLan 812 i0_811 rfl rfl ?_
      refine vLsn0 813 (by decide) i0_812 rfl rfl ?_
      refine vLin 814 i0_813 rfl rfl ?_
      refine vK 815 i0_814 rfl ?_
      refine vIadd 816 i0_815 rfl ?_
      refine vSal 817 rfl i0_816 rfl ?_
      refine vLsn0 818 (by decide) i0_817 rfl rfl ?_
      refine vLin 819 i0_818 rfl rfl ?_
      refine vK 820 i0_819 rfl ?_
      refine vIadd 821 i0_820 rfl ?_
      refine vSal 822 rfl i0_821 rfl ?_
      refine vLsn0 823 (by decide) i0_822 rfl rfl ?_
      refine vLin 824 i0_823 rfl rfl ?_
      refine vK 825 i0_824 rfl ?_
      refine vIadd 826 i0_825 rfl ?_
      refine vSal 827 rfl i0_826 rfl ?_
      refine vCallI 830 [.ref 0, vi ((sc.2 (Int.toNat (w32 (x3 + 1)))).toInt), vi ((sc.2 (Int.toNat (w32 (x3 + 2)))).toInt), vi ((sc.2 (Int.toNat (w32 (x3 + 3)))).toInt)] [] [(0, .ref 0), (1, vi ((sc.2 (Int.toNat (w32 (x3 + 1)))).toInt)), (2, vi ((sc.2 (Int.toNat (w32 (x3 + 2)))).toInt)), (3, vi ((sc.2 (Int.toNat (w32 (x3 + 3)))).toInt))] i0_827 rfl (xlk0 l0_98) (Or.inl rfl) m87 rfl rfl (Nat.le_of_ble_eq_true rfl) (Nat.le_of_ble_eq_true rfl) (Nat.le_of_ble_eq_true rfl) (xh0 sh_0 (by decide)) rfl rfl (fun R1 => c_x7_film N   (by omega) s ((sc.2 (Int.toNat (w32 (x3 + 1)))).toInt) ((sc.2 (Int.toNat (w32 (x3 + 2)))).toInt) ((sc.2 (Int.toNat (w32 (x3 + 3)))).toInt)) (fun s78 v79 => ?_)
      refine vD 831 i0_830 rfl rfl rfl ?_
      refine vLan 832 i0_831 rfl rfl ?_
      refine vLsn0 833 (by decide) i0_832 rfl rfl ?_
      refine vLin 834 i0_833 rfl rfl ?_
      refine vK 835 i0_834 rfl ?_
      refine vIadd 836 i0_835 rfl ?_
      refine vSal 837 rfl i0_836 rfl ?_
      refine vLsn0 838 (by decide) i0_837 rfl rfl ?_
      refine vLin 839 i0_838 rfl rfl ?_
      refine vK 840 i0_839 rfl ?_
      refine vIadd 841 i0_840 rfl ?_
      refine vSal 842 rfl i0_841 rfl ?_
      refine vLsn0 843 (by decide) i0_842 rfl rfl ?_
      refine vLin 844 i0_843 rfl rfl ?_
      refine vK 845 i0_844 rfl ?_
      refine vIadd 846 i0_845 rfl ?_
      refine vSal 847 rfl i0_846 rfl ?_
      refine vCallI 850 [.ref 77, vi ((sc.2 (Int.toNat (w32 (x3 + 1)))).toInt), vi ((sc.2 (Int.toNat (w32 (x3 + 2)))).toInt), vi ((sc.2 (Int.toNat (w32 (x3 + 3)))).toInt)] [] [(0, .ref 77), (1, vi ((sc.2 (Int.toNat (w32 (x3 + 1)))).toInt)), (2, vi ((sc.2 (Int.toNat (w32 (x3 + 2)))).toInt)), (3, vi ((sc.2 (Int.toNat (w32 (x3 + 3)))).toInt))] i0_847 rfl (xlk0 l0_101) (Or.inl rfl) m132 rfl rfl (Nat.le_of_ble_eq_true rfl) (Nat.le_of_ble_eq_true rfl) (Nat.le_of_ble_eq_true rfl) (xh0 sh_77 (by decide)) rfl rfl (fun R1 => c_x8_film N   (by omega) s78 ((sc.2 (Int.toNat (w32 (x3 + 1)))).toInt) ((sc.2 (Int.toNat (w32 (x3 + 2)))).toInt) ((sc.2 (Int.toNat (w32 (x3 + 3)))).toInt)) (fun s80 v81 => ?_)
      refine vD 851 i0_850 rfl rfl rfl ?_
      refine vGo 1221 i0_851 rfl ?_
      exact fun hD => c_law_1221 N sc  hd k18 hk18 s80 x3 hD
    refine vSw 854 (v := 20) rfl i0_33 rfl rfl ?_ (fun h20 => ?_)
    · refine vLan 855 i0_854 rfl rfl ?_
      refine vLsn0 856 (by decide) i0_855 rfl rfl ?_
      refine vLin 857 i0_856 rfl rfl ?_
      refine vK 858 i0_857 rfl ?_
      refine vIadd 859 i0_858 rfl ?_
      refine vSal 860 rfl i0_859 rfl ?_
      refine vLsn0 861 (by decide) i0_860 rfl rfl ?_
      refine vLin 862 i0_861 rfl rfl ?_
      refine vK 863 i0_862 rfl ?_
      refine vIadd 864 i0_863 rfl ?_
      refine vSal 865 rfl i0_864 rfl ?_
      refine vLsn0 866 (by decide) i0_865 rfl rfl ?_
      refine vLin 867 i0_866 rfl rfl ?_
      refine vK 868 i0_867 rfl ?_
      refine vIadd 869 i0_868 rfl ?_
      refine vSal 870 rfl i0_869 rfl ?_
      refine vCallI 873 [.ref 0, vi ((sc.2 (Int.toNat (w32 (x3 + 1)))).toInt), vi ((sc.2 (Int.toNat (w32 (x3 + 2)))).toInt), vi ((sc.2 (Int.toNat (w32 (x3 + 3)))).toInt)] [] [(0, .ref 0), (1, vi ((sc.2 (Int.toNat (w32 (x3 + 1)))).toInt)), (2, vi ((sc.2 (Int.toNat (w32 (x3 + 2)))).toInt)), (3, vi ((sc.2 (Int.toNat (w32 (x3 + 3)))).toInt))] i0_870 rfl (xlk0 l0_102) (Or.inl rfl) m116 rfl rfl (Nat.le_of_ble_eq_true rfl) (Nat.le_of_ble_eq_true rfl) (Nat.le_of_ble_eq_true rfl) (xh0 sh_0 (by decide)) rfl rfl (fun R1 => c_x7_tells N   (by omega) s ((sc.2 (Int.toNat (w32 (x3 + 1)))).toInt) ((sc.2 (Int.toNat (w32 (x3 + 2)))).toInt) ((sc.2 (Int.toNat (w32 (x3 + 3)))).toInt)) (fun s82 v83 => ?_)
      refine vD 874 i0_873 rfl rfl rfl ?_
      refine vLan 875 i0_874 rfl rfl ?_
      refine vLsn0 876 (by decide) i0_875 rfl rfl ?_
      refine vLin 877 i0_876 rfl rfl ?_
      refine vK 878 i0_877 rfl ?_
      refine vIadd 879 i0_878 rfl ?_
      refine vSal 880 rfl i0_879 rfl ?_
      refine vLsn0 881 (by decide) i0_880 rfl rfl ?_
      refine vLin 882 i0_881 rfl rfl ?_
      refine vK 883 i0_882 rfl ?_
      refine vIadd 884 i0_883 rfl ?_
      refine vSal 885 rfl i0_884 rfl ?_
      refine vLsn0 886 (by decide) i0_885 rfl rfl ?_
      refine vLin 887 i0_886 rfl rfl ?_
      refine vK 888 i0_887 rfl ?_
      refine vIadd 889 i0_888 rfl ?_
      refine vSal 890 rfl i0_889 rfl ?_
      refine vCallI 893 [.ref 77, vi ((sc.2 (Int.toNat (w32 (x3 + 1)))).toInt), vi ((sc.2 (Int.toNat (w32 (x3 + 2)))).toInt), vi ((sc.2 (Int.toNat (w32 (x3 + 3)))).toInt)] [] [(0, .ref 77), (1, vi ((sc.2 (Int.toNat (w32 (x3 + 1)))).toInt)), (2, vi ((sc.2 (Int.toNat (w32 (x3 + 2)))).toInt)), (3, vi ((sc.2 (Int.toNat (w32 (x3 + 3)))).toInt))] i0_890 rfl (xlk0 l0_105) (Or.inl rfl) m187 rfl rfl (Nat.le_of_ble_eq_true rfl) (Nat.le_of_ble_eq_true rfl) (Nat.le_of_ble_eq_true rfl) (xh0 sh_77 (by decide)) rfl rfl (fun R1 => c_x8_tells N   (by omega) s82 ((sc.2 (Int.toNat (w32 (x3 + 1)))).toInt) ((sc.2 (Int.toNat (w32 (x3 + 2)))).toInt) ((sc.2 (Int.toNat (w32 (x3 + 3)))).toInt)) (fun s84 v85 => ?_)
      refine vD 894 i0_893 rfl rfl rfl ?_
      refine vGo 1221 i0_894 rfl ?_
      exact fun hD => c_law_1221 N sc  hd k18 hk18 s84 x3 hD
    refine vSw 897 (v := 21) rfl i0_33 rfl rfl ?_ (fun h21 => ?_)
    · refine vLan 898 i0_897 rfl rfl ?_
      refine vCallI 901 [.ref 0] [] [(0, .ref 0)] i0_898 rfl (xlk0 l0_106) (Or.inl rfl) m92 rfl rfl (Nat.le_of_ble_eq_true rfl) (Nat.le_of_ble_eq_true rfl) (Nat.le_of_ble_eq_true rfl) (xh0 sh_0 (by decide)) rfl rfl (fun R1 => c_x7_image N   (by omega) s ) (fun s86 v87 => ?_)
      refine vD 902 i0_901 rfl rfl rfl ?_
      refine vLan 903 i0_902 rfl rfl ?_
      refine vCallI 906 [.ref 77] [] [(0, .ref 77)] i0_903 rfl (xlk0 l0_109) (Or.inl rfl) m141 rfl rfl (Nat.le_of_ble_eq_true rfl) (Nat.le_of_ble_eq_true rfl) (Nat.le_of_ble_eq_true rfl) (xh0 sh_77 (by decide)) rfl rfl (fun R1 => c_x8_image N   (by omega) s86 ) (fun s88 v89 => ?_)
      refine vD 907 i0_906 rfl rfl rfl ?_
      refine vGo 1221 i0_907 rfl ?_
      exact fun hD => c_law_1221 N sc  hd k18 hk18 s88 x3 hD
    refine vSw 910 (v := 22) rfl i0_33 rfl rfl ?_ (fun h22 => ?_)
    · refine vLan 911 i0_910 rfl rfl ?_
      refine vCallI 914 [.ref 0] [] [(0, .ref 0)] i0_911 rfl (xlk0 l0_110) (Or.inl rfl) m79 rfl rfl (Nat.le_of_ble_eq_true rfl) (Nat.le_of_ble_eq_true rfl) (Nat.le_of_ble_eq_true rfl) (xh0 sh_0 (by decide)) rfl rfl (fun R1 => c_x7_back N   (by omega) s ) (fun s90 v91 => ?_)
      refine vD 915 i0_914 rfl rfl rfl ?_
      refine vLan 916 i0_915 rfl rfl ?_
      refine vCallI 919 [.ref 77] [] [(0, .ref 77)] i0_916 rfl (xlk0 l0_113) (Or.inl rfl) m120 rfl rfl (Nat.le_of_ble_eq_true rfl) (Nat.le_of_ble_eq_true rfl) (Nat.le_of_ble_eq_true rfl) (xh0 sh_77 (by decide)) rfl rfl (fun R1 => c_x8_back N   (by omega) s90 ) (fun s92 v93 => ?_)
      refine vD 920 i0_919 rfl rfl rfl ?_
      refine vGo 1221 i0_920 rfl ?_
      exact fun hD => c_law_1221 N sc  hd k18 hk18 s92 x3 hD
    refine vSw 923 (v := 23) rfl i0_33 rfl rfl ?_ (fun h23 => ?_)
    · refine vLan 924 i0_923 rfl rfl ?_
      refine vLsn0 925 (by decide) i0_924 rfl rfl ?_
      refine vLin 926 i0_925 rfl rfl ?_
      refine vK 927 i0_926 rfl ?_
      refine vIadd 928 i0_927 rfl ?_
      refine vSal 929 rfl i0_928 rfl ?_
      refine vCallI 932 [.ref 0, vi ((sc.2 (Int.toNat (w32 (x3 + 1)))).toInt)] [] [(0, .ref 0), (1, vi ((sc.2 (Int.toNat (w32 (x3 + 1)))).toInt))] i0_929 rfl (xlk0 l0_114) (Or.inl rfl) m81 rfl rfl (Nat.le_of_ble_eq_true rfl) (Nat.le_of_ble_eq_true rfl) (Nat.le_of_ble_eq_true rfl) (xh0 sh_0 (by decide)) rfl rfl (fun R1 => c_x7_count N   (by omega) s ((sc.2 (Int.toNat (w32 (x3 + 1)))).toInt)) (fun s94 v95 => ?_)
      refine vD 933 i0_932 rfl rfl rfl ?_
      refine vLan 934 i0_933 rfl rfl ?_
      refine vLsn0 935 (by decide) i0_934 rfl rfl ?_
      refine vLin 936 i0_935 rfl rfl ?_
      refine vK 937 i0_936 rfl ?_
      refine vIadd 938 i0_937 rfl ?_
      refine vSal 939 rfl i0_938 rfl ?_
      refine vCallI 942 [.ref 77, vi ((sc.2 (Int.toNat (w32 (x3 + 1)))).toInt)] [] [(0, .ref 77), (1, vi ((sc.2 (Int.toNat (w32 (x3 + 1)))).toInt))] i0_939 rfl (xlk0 l0_117) (Or.inl rfl) m124 rfl rfl (Nat.le_of_ble_eq_true rfl) (Nat.le_of_ble_eq_true rfl) (Nat.le_of_ble_eq_true rfl) (xh0 sh_77 (by decide)) rfl rfl (fun R1 => c_x8_count N   (by omega) s94 ((sc.2 (Int.toNat (w32 (x3 + 1)))).toInt)) (fun s96 v97 => ?_)
      refine vD 943 i0_942 rfl rfl rfl ?_
      refine vGo 1221 i0_943 rfl ?_
      exact fun hD => c_law_1221 N sc  hd k18 hk18 s96 x3 hD
    refine vSw 946 (v := 24) rfl i0_33 rfl rfl ?_ (fun h24 => ?_)
    · refine vLan 947 i0_946 rfl rfl ?_
      refine vLsn0 948 (by decide) i0_947 rfl rfl ?_
      refine vLin 949 i0_948 rfl rfl ?_
      refine vK 950 i0_949 rfl ?_
      refine vIadd 951 i0_950 rfl ?_
      refine vSal 952 rfl i0_951 rfl ?_
      refine vLsn0 953 (by decide) i0_952 rfl rfl ?_
      refine vLin 954 i0_953 rfl rfl ?_
      refine vK 955 i0_954 rfl ?_
      refine vIadd 956 i0_955 rfl ?_
      refine vSal 957 rfl i0_956 rfl ?_
      refine vLsn0 958 (by decide) i0_957 rfl rfl ?_
      refine vLin 959 i0_958 rfl rfl ?_
      refine vK 960 i0_959 rfl ?_
      refine vIadd 961 i0_960 rfl ?_
      refine vSal 962 rfl i0_961 rfl ?_
      refine vCallI 965 [.ref 0, vi ((sc.2 (Int.toNat (w32 (x3 + 1)))).toInt), vi ((sc.2 (Int.toNat (w32 (x3 + 2)))).toInt), vi ((sc.2 (Int.toNat (w32 (x3 + 3)))).toInt)] [] [(0, .ref 0), (1, vi ((sc.2 (Int.toNat (w32 (x3 + 1)))).toInt)), (2, vi ((sc.2 (Int.toNat (w32 (x3 + 2)))).toInt)), (3, vi ((sc.2 (Int.toNat (w32 (x3 + 3)))).toInt))] i0_962 rfl (xlk0 l0_118) (Or.inl rfl) m111 rfl rfl (Nat.le_of_ble_eq_true rfl) (Nat.le_of_ble_eq_true rfl) (Nat.le_of_ble_eq_true rfl) (xh0 sh_0 (by decide)) rfl rfl (fun R1 => c_x7_sheet N   (by omega) s ((sc.2 (Int.toNat (w32 (x3 + 1)))).toInt) ((sc.2 (Int.toNat (w32 (x3 + 2)))).toInt) ((sc.2 (Int.toNat (w32 (x3 + 3)))).toInt)) (fun s98 v99 => ?_)
      refine vD 966 i0_965 rfl rfl rfl ?_
      refine vLan 967 i0_966 rfl rfl ?_
      refine vLsn0 968 (by decide) i0_967 rfl rfl ?_
      refine vLin 969 i0_968 rfl rfl ?_
      refine vK 970 i0_969 rfl ?_
      refine vIadd 971 i0_970 rfl ?_
      refine vSal 972 rfl i0_971 rfl ?_
      refine vLsn0 973 (by decide) i0_972 rfl rfl ?_
      refine vLin 974 i0_973 rfl rfl ?_
      refine vK 975 i0_974 rfl ?_
      refine vIadd 976 i0_975 rfl ?_
      refine vSal 977 rfl i0_976 rfl ?_
      refine vLsn0 978 (by decide) i0_977 rfl rfl ?_
      refine vLin 979 i0_978 rfl rfl ?_
      refine vK 980 i0_979 rfl ?_
      refine vIadd 981 i0_980 rfl ?_
      refine vSal 982 rfl i0_981 rfl ?_
      refine vCallI 985 [.ref 77, vi ((sc.2 (Int.toNat (w32 (x3 + 1)))).toInt), vi ((sc.2 (Int.toNat (w32 (x3 + 2)))).toInt), vi ((sc.2 (Int.toNat (w32 (x3 + 3)))).toInt)] [] [(0, .ref 77), (1, vi ((sc.2 (Int.toNat (w32 (x3 + 1)))).toInt)), (2, vi ((sc.2 (Int.toNat (w32 (x3 + 2)))).toInt)), (3, vi ((sc.2 (Int.toNat (w32 (x3 + 3)))).toInt))] i0_982 rfl (xlk0 l0_121) (Or.inl rfl) m183 rfl rfl (Nat.le_of_ble_eq_true rfl) (Nat.le_of_ble_eq_true rfl) (Nat.le_of_ble_eq_true rfl) (xh0 sh_77 (by decide)) rfl rfl (fun R1 => c_x8_sheet N   (by omega) s98 ((sc.2 (Int.toNat (w32 (x3 + 1)))).toInt) ((sc.2 (Int.toNat (w32 (x3 + 2)))).toInt) ((sc.2 (Int.toNat (w32 (x3 + 3)))).toInt)) (fun s100 v101 => ?_)
      refine vD 986 i0_985 rfl rfl rfl ?_
      refine vGo 1221 i0_986 rfl ?_
      exact fun hD => c_law_1221 N sc  hd k18 hk18 s100 x3 hD
    refine vSw 989 (v := 25) rfl i0_33 rfl rfl ?_ (fun h25 => ?_)
    · refine vLan 990 i0_989 rfl rfl ?_
      refine vLsn0 991 (by decide) i0_990 rfl rfl ?_
      refine vLin 992 i0_991 rfl rfl ?_
      refine vK 993 i0_992 rfl ?_
      refine vIadd 994 i0_993 rfl ?_
      refine vSal 995 rfl i0_994 rfl ?_
      refine vLsn0 996 (by decide) i0_995 rfl rfl ?_
      refine vLin 997 i0_996 rfl rfl ?_
      refine vK 998 i0_997 rfl ?_
      refine vIadd 999 i0_998 rfl ?_
      refine vSal 1000 rfl i0_999 rfl ?_
      refine vLsn0 1001 (by decide) i0_1000 rfl rfl ?_
      refine vLin 1002 i0_1001 rfl rfl ?_
      refine vK 1003 i0_1002 rfl ?_
      refine vIadd 1004 i0_1003 rfl ?_
      refine vSal 1005 rfl i0_1004 rfl ?_
      refine vI2l 1006 i0_1005 rfl ?_
      refine vKb 1008 i0_1006 (by decide) rfl ?_
      refine vLshl 1009 i0_1008 rfl ?_
      refine vLsn0 1010 (by decide) i0_1009 rfl rfl ?_
      refine vLin 1011 i0_1010 rfl rfl ?_
      refine vK 1012 i0_1011 rfl ?_
      refine vIadd 1013 i0_1012 rfl ?_
      refine vSal 1014 rfl i0_1013 rfl ?_
      refine vI2l 1015 i0_1014 rfl ?_
      refine vKd 1018 i0_1015 c0_83 rfl ?_
      refine vLand 1019 i0_1018 rfl ?_
      refine vLor 1020 i0_1019 rfl ?_
      refine vCallI 1023 [.ref 0, vi ((sc.2 (Int.toNat (w32 (x3 + 1)))).toInt), vi ((sc.2 (Int.toNat (w32 (x3 + 2)))).toInt), vl (or64 (shl64 (w32 ((sc.2 (Int.toNat (w32 (x3 + 3)))).toInt)) 32) (and64 (w32 ((sc.2 (Int.toNat (w32 (x3 + 4)))).toInt)) 4294967295))] [] [(0, .ref 0), (1, vi ((sc.2 (Int.toNat (w32 (x3 + 1)))).toInt)), (2, vi ((sc.2 (Int.toNat (w32 (x3 + 2)))).toInt)), (3, vl (or64 (shl64 (w32 ((sc.2 (Int.toNat (w32 (x3 + 3)))).toInt)) 32) (and64 (w32 ((sc.2 (Int.toNat (w32 (x3 + 4)))).toInt)) 4294967295)))] i0_1020 rfl (xlk0 l0_122) (Or.inl rfl) m107 rfl rfl (Nat.le_of_ble_eq_true rfl) (Nat.le_of_ble_eq_true rfl) (Nat.le_of_ble_eq_true rfl) (xh0 sh_0 (by decide)) rfl rfl (fun R1 => c_x7_put N   (by omega) s ((sc.2 (Int.toNat (w32 (x3 + 1)))).toInt) ((sc.2 (Int.toNat (w32 (x3 + 2)))).toInt) (or64 (shl64 (w32 ((sc.2 (Int.toNat (w32 (x3 + 3)))).toInt)) 32) (and64 (w32 ((sc.2 (Int.toNat (w32 (x3 + 4)))).toInt)) 4294967295))) (fun s102 v103 => ?_)
      refine vD 1024 i0_1023 rfl rfl rfl ?_
      refine vLan 1025 i0_1024 rfl rfl ?_
      refine vLsn0 1026 (by decide) i0_1025 rfl rfl ?_
      refine vLin 1027 i0_1026 rfl rfl ?_
      refine vK 1028 i0_1027 rfl ?_
      refine vIadd 1029 i0_1028 rfl ?_
      refine vSal 1030 rfl i0_1029 rfl ?_
      refine vLsn0 1031 (by decide) i0_1030 rfl rfl ?_
      refine vLin 1032 i0_1031 rfl rfl ?_
      refine vK 1033 i0_1032 rfl ?_
      refine vIadd 1034 i0_1033 rfl ?_
      refine vSal 1035 rfl i0_1034 rfl ?_
      refine vLsn0 1036 (by decide) i0_1035 rfl rfl ?_
      refine vLin 1037 i0_1036 rfl rfl ?_
      refine vK 1038 i0_1037 rfl ?_
      refine vIadd 1039 i0_1038 rfl ?_
      refine vSal 1040 rfl i0_1039 rfl ?_
      refine vI2l 1041 i0_1040 rfl ?_
      refine vKb 1043 i0_1041 (by decide) rfl ?_
      refine vLshl 1044 i0_1043 rfl ?_
      refine vLsn0 1045 (by decide) i0_1044 rfl rfl ?_
      refine vLin 1046 i0_1045 rfl rfl ?_
      refine vK 1047 i0_1046 rfl ?_
      refine vIadd 1048 i0_1047 rfl ?_
      refine vSal 1049 rfl i0_1048 rfl ?_
      refine vI2l 1050 i0_1049 rfl ?_
      refine vKd 1053 i0_1050 c0_83 rfl ?_
      refine vLand 1054 i0_1053 rfl ?_
      refine vLor 1055 i0_1054 rfl ?_
      refine vCallI 1058 [.ref 77, vi ((sc.2 (Int.toNat (w32 (x3 + 1)))).toInt), vi ((sc.2 (Int.toNat (w32 (x3 + 2)))).toInt), vl (or64 (shl64 (w32 ((sc.2 (Int.toNat (w32 (x3 + 3)))).toInt)) 32) (and64 (w32 ((sc.2 (Int.toNat (w32 (x3 + 4)))).toInt)) 4294967295))] [] [(0, .ref 77), (1, vi ((sc.2 (Int.toNat (w32 (x3 + 1)))).toInt)), (2, vi ((sc.2 (Int.toNat (w32 (x3 + 2)))).toInt)), (3, vl (or64 (shl64 (w32 ((sc.2 (Int.toNat (w32 (x3 + 3)))).toInt)) 32) (and64 (w32 ((sc.2 (Int.toNat (w32 (x3 + 4)))).toInt)) 4294967295)))] i0_1055 rfl (xlk0 l0_126) (Or.inl rfl) m179 rfl rfl (Nat.le_of_ble_eq_true rfl) (Nat.le_of_ble_eq_true rfl) (Nat.le_of_ble_eq_true rfl) (xh0 sh_77 (by decide)) rfl rfl (fun R1 => c_x8_put N   (by omega) s102 ((sc.2 (Int.toNat (w32 (x3 + 1)))).toInt) ((sc.2 (Int.toNat (w32 (x3 + 2)))).toInt) (or64 (shl64 (w32 ((sc.2 (Int.toNat (w32 (x3 + 3)))).toInt)) 32) (and64 (w32 ((sc.2 (Int.toNat (w32 (x3 + 4)))).toInt)) 4294967295))) (fun s104 v105 => ?_)
      refine vD 1059 i0_1058 rfl rfl rfl ?_
      refine vGo 1221 i0_1059 rfl ?_
      exact fun hD => c_law_1221 N sc  hd k18 hk18 s104 x3 hD
    refine vSw 1062 (v := 26) rfl i0_33 rfl rfl ?_ (fun h26 => ?_)
    · refine vLan 1063 i0_1062 rfl rfl ?_
      refine vLsn0 1064 (by decide) i0_1063 rfl rfl ?_
      refine vLin 1065 i0_1064 rfl rfl ?_
      refine vK 1066 i0_1065 rfl ?_
      refine vIadd 1067 i0_1066 rfl ?_
      refine vSal 1068 rfl i0_1067 rfl ?_
      refine vLsn0 1069 (by decide) i0_1068 rfl rfl ?_
      refine vLin 1070 i0_1069 rfl rfl ?_
      refine vK 1071 i0_1070 rfl ?_
      refine vIadd 1072 i0_1071 rfl ?_
      refine vSal 1073 rfl i0_1072 rfl ?_
      refine vCallL 1076 [.ref 0, vi ((sc.2 (Int.toNat (w32 (x3 + 1)))).toInt), vi ((sc.2 (Int.toNat (w32 (x3 + 2)))).toInt)] [] [(0, .ref 0), (1, vi ((sc.2 (Int.toNat (w32 (x3 + 1)))).toInt)), (2, vi ((sc.2 (Int.toNat (w32 (x3 + 2)))).toInt))] i0_1073 rfl (xlk0 l0_127) (Or.inl rfl) m100 rfl rfl (Nat.le_of_ble_eq_true rfl) (Nat.le_of_ble_eq_true rfl) (Nat.le_of_ble_eq_true rfl) (xh0 sh_0 (by decide)) rfl rfl (fun R1 => c_x7_item N   (by omega) s ((sc.2 (Int.toNat (w32 (x3 + 1)))).toInt) ((sc.2 (Int.toNat (w32 (x3 + 2)))).toInt)) (fun s106 v107 => ?_)
      refine vD 1077 i0_1076 rfl rfl rfl ?_
      refine vLan 1078 i0_1077 rfl rfl ?_
      refine vLsn0 1079 (by decide) i0_1078 rfl rfl ?_
      refine vLin 1080 i0_1079 rfl rfl ?_
      refine vK 1081 i0_1080 rfl ?_
      refine vIadd 1082 i0_1081 rfl ?_
      refine vSal 1083 rfl i0_1082 rfl ?_
      refine vLsn0 1084 (by decide) i0_1083 rfl rfl ?_
      refine vLin 1085 i0_1084 rfl rfl ?_
      refine vK 1086 i0_1085 rfl ?_
      refine vIadd 1087 i0_1086 rfl ?_
      refine vSal 1088 rfl i0_1087 rfl ?_
      refine vCallL 1091 [.ref 77, vi ((sc.2 (Int.toNat (w32 (x3 + 1)))).toInt), vi ((sc.2 (Int.toNat (w32 (x3 + 2)))).toInt)] [] [(0, .ref 77), (1, vi ((sc.2 (Int.toNat (w32 (x3 + 1)))).toInt)), (2, vi ((sc.2 (Int.toNat (w32 (x3 + 2)))).toInt))] i0_1088 rfl (xlk0 l0_130) (Or.inl rfl) m155 rfl rfl (Nat.le_of_ble_eq_true rfl) (Nat.le_of_ble_eq_true rfl) (Nat.le_of_ble_eq_true rfl) (xh0 sh_77 (by decide)) rfl rfl (fun R1 => c_x8_item N   (by omega) s106 ((sc.2 (Int.toNat (w32 (x3 + 1)))).toInt) ((sc.2 (Int.toNat (w32 (x3 + 2)))).toInt)) (fun s108 v109 => ?_)
      refine vD 1092 i0_1091 rfl rfl rfl ?_
      refine vGo 1221 i0_1092 rfl ?_
      exact fun hD => c_law_1221 N sc  hd k18 hk18 s108 x3 hD
    refine vSw 1095 (v := 27) rfl i0_33 rfl rfl ?_ (fun h27 => ?_)
    · refine vLan 1096 i0_1095 rfl rfl ?_
      refine vLsn0 1097 (by decide) i0_1096 rfl rfl ?_
      refine vLin 1098 i0_1097 rfl rfl ?_
      refine vK 1099 i0_1098 rfl ?_
      refine vIadd 1100 i0_1099 rfl ?_
      refine vSal 1101 rfl i0_1100 rfl ?_
      refine vLsn0 1102 (by decide) i0_1101 rfl rfl ?_
      refine vLin 1103 i0_1102 rfl rfl ?_
      refine vK 1104 i0_1103 rfl ?_
      refine vIadd 1105 i0_1104 rfl ?_
      refine vSal 1106 rfl i0_1105 rfl ?_
      refine vLsn0 1107 (by decide) i0_1106 rfl rfl ?_
      refine vLin 1108 i0_1107 rfl rfl ?_
      refine vK 1109 i0_1108 rfl ?_
      refine vIadd 1110 i0_1109 rfl ?_
      refine vSal 1111 rfl i0_1110 rfl ?_
      refine vLsn0 1112 (by decide) i0_1111 rfl rfl ?_
      refine vLin 1113 i0_1112 rfl rfl ?_
      refine vK 1114 i0_1113 rfl ?_
      refine vIadd 1115 i0_1114 rfl ?_
      refine vSal 1116 rfl i0_1115 rfl ?_
      refine vLsn0 1117 (by decide) i0_1116 rfl rfl ?_
      refine vLin 1118 i0_1117 rfl rfl ?_
      refine vK 1119 i0_1118 rfl ?_
      refine vIadd 1120 i0_1119 rfl ?_
      refine vSal 1121 rfl i0_1120 rfl ?_
      refine vCallI 1124 [.ref 0, vi ((sc.2 (Int.toNat (w32 (x3 + 1)))).toInt), vi ((sc.2 (Int.toNat (w32 (x3 + 2)))).toInt), vi ((sc.2 (Int.toNat (w32 (x3 + 3)))).toInt), vi ((sc.2 (Int.toNat (w32 (x3 + 4)))).toInt), vi ((sc.2 (Int.toNat (w32 (x3 + 5)))).toInt)] [] [(0, .ref 0), (1, vi ((sc.2 (Int.toNat (w32 (x3 + 1)))).toInt)), (2, vi ((sc.2 (Int.toNat (w32 (x3 + 2)))).toInt)), (3, vi ((sc.2 (Int.toNat (w32 (x3 + 3)))).toInt)), (4, vi ((sc.2 (Int.toNat (w32 (x3 + 4)))).toInt)), (5, vi ((sc.2 (Int.toNat (w32 (x3 + 5)))).toInt))] i0_1121 rfl (xlk0 l0_131) (Or.inl rfl) m80 rfl rfl (Nat.le_of_ble_eq_true rfl) (Nat.le_of_ble_eq_true rfl) (Nat.le_of_ble_eq_true rfl) (xh0 sh_0 (by decide)) rfl rfl (fun R1 => c_x7_copy N   (by omega) s ((sc.2 (Int.toNat (w32 (x3 + 1)))).toInt) ((sc.2 (Int.toNat (w32 (x3 + 2)))).toInt) ((sc.2 (Int.toNat (w32 (x3 + 3)))).toInt) ((sc.2 (Int.toNat (w32 (x3 + 4)))).toInt) ((sc.2 (Int.toNat (w32 (x3 + 5)))).toInt)) (fun s110 v111 => ?_)
      refine vD 1125 i0_1124 rfl rfl rfl ?_
      refine vLan 1126 i0_1125 rfl rfl ?_
      refine vLsn0 1127 (by decide) i0_1126 rfl rfl ?_
      refine vLin 1128 i0_1127 rfl rfl ?_
      refine vK 1129 i0_1128 rfl ?_
      refine vIadd 1130 i0_1129 rfl ?_
      refine vSal 1131 rfl i0_1130 rfl ?_
      refine vLsn0 1132 (by decide) i0_1131 rfl rfl ?_
      refine vLin 1133 i0_1132 rfl rfl ?_
      refine vK 1134 i0_1133 rfl ?_
      refine vIadd 1135 i0_1134 rfl ?_
      refine vSal 1136 rfl i0_1135 rfl ?_
      refine vLsn0 1137 (by decide) i0_1136 rfl rfl ?_
      refine vLin 1138 i0_1137 rfl rfl ?_
      refine vK 1139 i0_1138 rfl ?_
      refine vIadd 1140 i0_1139 rfl ?_
      refine vSal 1141 rfl i0_1140 rfl ?_
      refine vLsn0 1142 (by decide) i0_1141 rfl rfl ?_
      refine vLin 1143 i0_1142 rfl rfl ?_
      refine vK 1144 i0_1143 rfl ?_
      refine vIadd 1145 i0_1144 rfl ?_
      refine vSal 1146 rfl i0_1145 rfl ?_
      refine vLsn0 1147 (by decide) i0_1146 rfl rfl ?_
      refine vLin 1148 i0_1147 rfl rfl ?_
      refine vK 1149 i0_1148 rfl ?_
      refine vIadd 1150 i0_1149 rfl ?_
      refine vSal 1151 rfl i0_1150 rfl ?_
      refine vCallI 1154 [.ref 77, vi ((sc.2 (Int.toNat (w32 (x3 + 1)))).toInt), vi ((sc.2 (Int.toNat (w32 (x3 + 2)))).toInt), vi ((sc.2 (Int.toNat (w32 (x3 + 3)))).toInt), vi ((sc.2 (Int.toNat (w32 (x3 + 4)))).toInt), vi ((sc.2 (Int.toNat (w32 (x3 + 5)))).toInt)] [] [(0, .ref 77), (1, vi ((sc.2 (Int.toNat (w32 (x3 + 1)))).toInt)), (2, vi ((sc.2 (Int.toNat (w32 (x3 + 2)))).toInt)), (3, vi ((sc.2 (Int.toNat (w32 (x3 + 3)))).toInt)), (4, vi ((sc.2 (Int.toNat (w32 (x3 + 4)))).toInt)), (5, vi ((sc.2 (Int.toNat (w32 (x3 + 5)))).toInt))] i0_1151 rfl (xlk0 l0_135) (Or.inl rfl) m123 rfl rfl (Nat.le_of_ble_eq_true rfl) (Nat.le_of_ble_eq_true rfl) (Nat.le_of_ble_eq_true rfl) (xh0 sh_77 (by decide)) rfl rfl (fun R1 => c_x8_copy N   (by omega) s110 ((sc.2 (Int.toNat (w32 (x3 + 1)))).toInt) ((sc.2 (Int.toNat (w32 (x3 + 2)))).toInt) ((sc.2 (Int.toNat (w32 (x3 + 3)))).toInt) ((sc.2 (Int.toNat (w32 (x3 + 4)))).toInt) ((sc.2 (Int.toNat (w32 (x3 + 5)))).toInt)) (fun s112 v113 => ?_)
      refine vD 1155 i0_1154 rfl rfl rfl ?_
      refine vGo 1221 i0_1155 rfl ?_
      exact fun hD => c_law_1221 N sc  hd k18 hk18 s112 x3 hD
    refine vSw 1158 (v := 28) rfl i0_33 rfl rfl ?_ (fun h28 => ?_)
    · refine vLan 1159 i0_1158 rfl rfl ?_
      refine vLsn0 1160 (by decide) i0_1159 rfl rfl ?_
      refine vLin 1161 i0_1160 rfl rfl ?_
      refine vK 1162 i0_1161 rfl ?_
      refine vIadd 1163 i0_1162 rfl ?_
      refine vSal 1164 rfl i0_1163 rfl ?_
      refine vLsn0 1165 (by decide) i0_1164 rfl rfl ?_
      refine vLin 1166 i0_1165 rfl rfl ?_
      refine vK 1167 i0_1166 rfl ?_
      refine vIadd 1168 i0_1167 rfl ?_
      refine vSal 1169 rfl i0_1168 rfl ?_
      refine vLsn0 1170 (by decide) i0_1169 rfl rfl ?_
      refine vLin 1171 i0_1170 rfl rfl ?_
      refine vK 1172 i0_1171 rfl ?_
      refine vIadd 1173 i0_1172 rfl ?_
      refine vSal 1174 rfl i0_1173 rfl ?_
      refine vLsn0 1175 (by decide) i0_1174 rfl rfl ?_
      refine vLin 1176 i0_1175 rfl rfl ?_
      refine vK 1177 i0_1176 rfl ?_
      refine vIadd 1178 i0_1177 rfl ?_
      refine vSal 1179 rfl i0_1178 rfl ?_
      refine vLsn0 1180 (by decide) i0_1179 rfl rfl ?_
      refine vLin 1181 i0_1180 rfl rfl ?_
      refine vK 1182 i0_1181 rfl ?_
      refine vIadd 1183 i0_1182 rfl ?_
      refine vSal 1184 rfl i0_1183 rfl ?_
      refine vCallI 1187 [.ref 0, vi ((sc.2 (Int.toNat (w32 (x3 + 1)))).toInt), vi ((sc.2 (Int.toNat (w32 (x3 + 2)))).toInt), vi ((sc.2 (Int.toNat (w32 (x3 + 3)))).toInt), vi ((sc.2 (Int.toNat (w32 (x3 + 4)))).toInt), vi ((sc.2 (Int.toNat (w32 (x3 + 5)))).toInt)] [] [(0, .ref 0), (1, vi ((sc.2 (Int.toNat (w32 (x3 + 1)))).toInt)), (2, vi ((sc.2 (Int.toNat (w32 (x3 + 2)))).toInt)), (3, vi ((sc.2 (Int.toNat (w32 (x3 + 3)))).toInt)), (4, vi ((sc.2 (Int.toNat (w32 (x3 + 4)))).toInt)), (5, vi ((sc.2 (Int.toNat (w32 (x3 + 5)))).toInt))] i0_1184 rfl (xlk0 l0_136) (Or.inl rfl) m101 rfl rfl (Nat.le_of_ble_eq_true rfl) (Nat.le_of_ble_eq_true rfl) (Nat.le_of_ble_eq_true rfl) (xh0 sh_0 (by decide)) rfl rfl (fun R1 => c_x7_lay N   (by omega) s ((sc.2 (Int.toNat (w32 (x3 + 1)))).toInt) ((sc.2 (Int.toNat (w32 (x3 + 2)))).toInt) ((sc.2 (Int.toNat (w32 (x3 + 3)))).toInt) ((sc.2 (Int.toNat (w32 (x3 + 4)))).toInt) ((sc.2 (Int.toNat (w32 (x3 + 5)))).toInt)) (fun s114 v115 => ?_)
      refine vLan 1188 i0_1187 rfl rfl ?_
      refine vLsn0 1189 (by decide) i0_1188 rfl rfl ?_
      refine vLin 1190 i0_1189 rfl rfl ?_
      refine vK 1191 i0_1190 rfl ?_
      refine vIadd 1192 i0_1191 rfl ?_
      refine vSal 1193 rfl i0_1192 rfl ?_
      refine vLsn0 1194 (by decide) i0_1193 rfl rfl ?_
      refine vLin 1195 i0_1194 rfl rfl ?_
      refine vK 1196 i0_1195 rfl ?_
      refine vIadd 1197 i0_1196 rfl ?_
      refine vSal 1198 rfl i0_1197 rfl ?_
      refine vLsn0 1199 (by decide) i0_1198 rfl rfl ?_
      refine vLin 1200 i0_1199 rfl rfl ?_
      refine vK 1201 i0_1200 rfl ?_
      refine vIadd 1202 i0_1201 rfl ?_
      refine vSal 1203 rfl i0_1202 rfl ?_
      refine vLsn0 1204 (by decide) i0_1203 rfl rfl ?_
      refine vLin 1205 i0_1204 rfl rfl ?_
      refine vK 1206 i0_1205 rfl ?_
      refine vIadd 1207 i0_1206 rfl ?_
      refine vSal 1208 rfl i0_1207 rfl ?_
      refine vLsn0 1209 (by decide) i0_1208 rfl rfl ?_
      refine vLin 1210 i0_1209 rfl rfl ?_
      refine vK 1211 i0_1210 rfl ?_
      refine vIadd 1212 i0_1211 rfl ?_
      refine vSal 1213 rfl i0_1212 rfl ?_
      refine vCallI 1216 [.ref 77, vi ((sc.2 (Int.toNat (w32 (x3 + 1)))).toInt), vi ((sc.2 (Int.toNat (w32 (x3 + 2)))).toInt), vi ((sc.2 (Int.toNat (w32 (x3 + 3)))).toInt), vi ((sc.2 (Int.toNat (w32 (x3 + 4)))).toInt), vi ((sc.2 (Int.toNat (w32 (x3 + 5)))).toInt)] [vi v115] [(0, .ref 77), (1, vi ((sc.2 (Int.toNat (w32 (x3 + 1)))).toInt)), (2, vi ((sc.2 (Int.toNat (w32 (x3 + 2)))).toInt)), (3, vi ((sc.2 (Int.toNat (w32 (x3 + 3)))).toInt)), (4, vi ((sc.2 (Int.toNat (w32 (x3 + 4)))).toInt)), (5, vi ((sc.2 (Int.toNat (w32 (x3 + 5)))).toInt))] i0_1213 rfl (xlk0 l0_139) (Or.inl rfl) m160 rfl rfl (Nat.le_of_ble_eq_true rfl) (Nat.le_of_ble_eq_true rfl) (Nat.le_of_ble_eq_true rfl) (xh0 sh_77 (by decide)) rfl rfl (fun R1 => c_x8_lay N   (by omega) s114 ((sc.2 (Int.toNat (w32 (x3 + 1)))).toInt) ((sc.2 (Int.toNat (w32 (x3 + 2)))).toInt) ((sc.2 (Int.toNat (w32 (x3 + 3)))).toInt) ((sc.2 (Int.toNat (w32 (x3 + 4)))).toInt) ((sc.2 (Int.toNat (w32 (x3 + 5)))).toInt)) (fun s116 v117 => ?_)
      refine vCeq 1221 1219 rfl rfl i0_1216 rfl rfl ?_ ?_
      · exact fun hD => c_law_1221 N sc  hd k18 hk18 s116 x3 hD
      · refine vK 1220 i0_1219 rfl ?_
        exact vRi i0_1220 m0 (by decide)
    refine vSwD 1221 i0_33 (by omega) rfl ?_
    exact fun hD => c_law_1221 N sc  hd k18 hk18 s x3 hD
theorem c_law_18L {d : Nat} {R : Rs} (N : Nat) (sc : xS)  (hd : 554 ≤ d)   : ∀ (n : Nat) (s : St) (x3 : Int), d_law_18L N sc  n s x3 = some R → vT sc d 0 18 [(0, .retAddr 0), (1, .ref 0), (2, .ref 77), (3, vi x3)] [] s (fun r => r = qI R) := by
  intro n
  induction n with
  | zero => intro s x3 hD; cases hD
  | succ n ih => intro s x3 hD; exact c_law_18 N sc  hd  _ ih s x3 hD

theorem d_La_law_0 : decode code 0 = .ok (.new 7, 3) := by decide +kernel
theorem d_La_law_3 : decode code 3 = .ok (.dup, 1) := by decide +kernel
theorem d_La_law_4 : decode code 4 = .ok (.invokespecial 9, 3) := by decide +kernel
theorem d_La_law_7 : decode code 7 = .ok (.astore_n 1, 1) := by decide +kernel
theorem d_La_law_8 : decode code 8 = .ok (.new 10, 3) := by decide +kernel
theorem d_La_law_11 : decode code 11 = .ok (.dup, 1) := by decide +kernel
theorem d_La_law_12 : decode code 12 = .ok (.invokespecial 12, 3) := by decide +kernel
theorem d_La_law_15 : decode code 15 = .ok (.astore_n 2, 1) := by decide +kernel
theorem d_La_law_16 : decode code 16 = .ok (.iconst 0, 1) := by decide +kernel
theorem d_La_law_17 : decode code 17 = .ok (.istore_n 3, 1) := by decide +kernel
theorem d_La_law_18 : decode code 18 = .ok (.iload_n 3, 1) := by decide +kernel
theorem d_La_law_19 : decode code 19 = .ok (.aload_n 0, 1) := by decide +kernel
theorem d_La_law_20 : decode code 20 = .ok (.arraylength, 1) := by decide +kernel
theorem d_La_law_21 : decode code 21 = .ok (.iconst 5, 1) := by decide +kernel
theorem d_La_law_22 : decode code 22 = .ok (.isub, 1) := by decide +kernel
theorem d_La_law_23 : decode code 23 = .ok (.if_icmp .gt 712, 3) := by decide +kernel
theorem d_La_law_26 : decode code 26 = .ok (.aload_n 0, 1) := by decide +kernel
theorem d_La_law_27 : decode code 27 = .ok (.iload_n 3, 1) := by decide +kernel
theorem d_La_law_28 : decode code 28 = .ok (.iaload, 1) := by decide +kernel
theorem d_La_law_29 : decode code 29 = .ok (.bipush 31, 2) := by decide +kernel
theorem d_La_law_31 : decode code 31 = .ok (.iand, 1) := by decide +kernel
theorem d_La_law_32 : decode code 32 = .ok (.tableswitch 697 0 21 #[104, 127, 140, 153, 166, 199, 232, 265, 298, 311, 344, 387, 410, 433, 466, 519, 578, 591, 634, 647, 660, 683], 104) := by decide +kernel
theorem d_La_law_136 : decode code 136 = .ok (.aload_n 1, 1) := by decide +kernel
theorem d_La_law_137 : decode code 137 = .ok (.aload_n 0, 1) := by decide +kernel
theorem d_La_law_138 : decode code 138 = .ok (.iload_n 3, 1) := by decide +kernel
theorem d_La_law_139 : decode code 139 = .ok (.iconst 1, 1) := by decide +kernel
theorem d_La_law_140 : decode code 140 = .ok (.iadd, 1) := by decide +kernel
theorem d_La_law_141 : decode code 141 = .ok (.iaload, 1) := by decide +kernel
theorem d_La_law_142 : decode code 142 = .ok (.invokevirtual 13, 3) := by decide +kernel
theorem d_La_law_145 : decode code 145 = .ok (.aload_n 2, 1) := by decide +kernel
theorem d_La_law_146 : decode code 146 = .ok (.aload_n 0, 1) := by decide +kernel
theorem d_La_law_147 : decode code 147 = .ok (.iload_n 3, 1) := by decide +kernel
theorem d_La_law_148 : decode code 148 = .ok (.iconst 1, 1) := by decide +kernel
theorem d_La_law_149 : decode code 149 = .ok (.iadd, 1) := by decide +kernel
theorem d_La_law_150 : decode code 150 = .ok (.iaload, 1) := by decide +kernel
theorem d_La_law_151 : decode code 151 = .ok (.invokevirtual 17, 3) := by decide +kernel
theorem d_La_law_154 : decode code 154 = .ok (.if_icmp .eq 575, 3) := by decide +kernel
theorem d_La_law_157 : decode code 157 = .ok (.iconst 0, 1) := by decide +kernel
theorem d_La_law_158 : decode code 158 = .ok (.ireturn, 1) := by decide +kernel
theorem d_La_law_159 : decode code 159 = .ok (.aload_n 1, 1) := by decide +kernel
theorem d_La_law_160 : decode code 160 = .ok (.invokevirtual 18, 3) := by decide +kernel
theorem d_La_law_163 : decode code 163 = .ok (.aload_n 2, 1) := by decide +kernel
theorem d_La_law_164 : decode code 164 = .ok (.invokevirtual 22, 3) := by decide +kernel
theorem d_La_law_167 : decode code 167 = .ok (.if_icmp .eq 562, 3) := by decide +kernel
theorem d_La_law_170 : decode code 170 = .ok (.iconst 0, 1) := by decide +kernel
theorem d_La_law_171 : decode code 171 = .ok (.ireturn, 1) := by decide +kernel
theorem d_La_law_172 : decode code 172 = .ok (.aload_n 1, 1) := by decide +kernel
theorem d_La_law_173 : decode code 173 = .ok (.invokevirtual 23, 3) := by decide +kernel
theorem d_La_law_176 : decode code 176 = .ok (.aload_n 2, 1) := by decide +kernel
theorem d_La_law_177 : decode code 177 = .ok (.invokevirtual 26, 3) := by decide +kernel
theorem d_La_law_180 : decode code 180 = .ok (.if_icmp .eq 549, 3) := by decide +kernel
theorem d_La_law_183 : decode code 183 = .ok (.iconst 0, 1) := by decide +kernel
theorem d_La_law_184 : decode code 184 = .ok (.ireturn, 1) := by decide +kernel
theorem d_La_law_185 : decode code 185 = .ok (.aload_n 1, 1) := by decide +kernel
theorem d_La_law_186 : decode code 186 = .ok (.invokevirtual 27, 3) := by decide +kernel
theorem d_La_law_189 : decode code 189 = .ok (.aload_n 2, 1) := by decide +kernel
theorem d_La_law_190 : decode code 190 = .ok (.invokevirtual 30, 3) := by decide +kernel
theorem d_La_law_193 : decode code 193 = .ok (.if_icmp .eq 536, 3) := by decide +kernel
theorem d_La_law_196 : decode code 196 = .ok (.iconst 0, 1) := by decide +kernel
theorem d_La_law_197 : decode code 197 = .ok (.ireturn, 1) := by decide +kernel
theorem d_La_law_198 : decode code 198 = .ok (.aload_n 1, 1) := by decide +kernel
theorem d_La_law_199 : decode code 199 = .ok (.aload_n 0, 1) := by decide +kernel
theorem d_La_law_200 : decode code 200 = .ok (.iload_n 3, 1) := by decide +kernel
theorem d_La_law_201 : decode code 201 = .ok (.iconst 1, 1) := by decide +kernel
theorem d_La_law_202 : decode code 202 = .ok (.iadd, 1) := by decide +kernel
theorem d_La_law_203 : decode code 203 = .ok (.iaload, 1) := by decide +kernel
theorem d_La_law_204 : decode code 204 = .ok (.aload_n 0, 1) := by decide +kernel
theorem d_La_law_205 : decode code 205 = .ok (.iload_n 3, 1) := by decide +kernel
theorem d_La_law_206 : decode code 206 = .ok (.iconst 2, 1) := by decide +kernel
theorem d_La_law_207 : decode code 207 = .ok (.iadd, 1) := by decide +kernel
theorem d_La_law_208 : decode code 208 = .ok (.iaload, 1) := by decide +kernel
theorem d_La_law_209 : decode code 209 = .ok (.invokevirtual 31, 3) := by decide +kernel
theorem d_La_law_212 : decode code 212 = .ok (.aload_n 2, 1) := by decide +kernel
theorem d_La_law_213 : decode code 213 = .ok (.aload_n 0, 1) := by decide +kernel
theorem d_La_law_214 : decode code 214 = .ok (.iload_n 3, 1) := by decide +kernel
theorem d_La_law_215 : decode code 215 = .ok (.iconst 1, 1) := by decide +kernel
theorem d_La_law_216 : decode code 216 = .ok (.iadd, 1) := by decide +kernel
theorem d_La_law_217 : decode code 217 = .ok (.iaload, 1) := by decide +kernel
theorem d_La_law_218 : decode code 218 = .ok (.aload_n 0, 1) := by decide +kernel
theorem d_La_law_219 : decode code 219 = .ok (.iload_n 3, 1) := by decide +kernel
theorem d_La_law_220 : decode code 220 = .ok (.iconst 2, 1) := by decide +kernel
theorem d_La_law_221 : decode code 221 = .ok (.iadd, 1) := by decide +kernel
theorem d_La_law_222 : decode code 222 = .ok (.iaload, 1) := by decide +kernel
theorem d_La_law_223 : decode code 223 = .ok (.invokevirtual 35, 3) := by decide +kernel
theorem d_La_law_226 : decode code 226 = .ok (.if_icmp .eq 503, 3) := by decide +kernel
theorem d_La_law_229 : decode code 229 = .ok (.iconst 0, 1) := by decide +kernel
theorem d_La_law_230 : decode code 230 = .ok (.ireturn, 1) := by decide +kernel
theorem d_La_law_231 : decode code 231 = .ok (.aload_n 1, 1) := by decide +kernel
theorem d_La_law_232 : decode code 232 = .ok (.aload_n 0, 1) := by decide +kernel
theorem d_La_law_233 : decode code 233 = .ok (.iload_n 3, 1) := by decide +kernel
theorem d_La_law_234 : decode code 234 = .ok (.iconst 1, 1) := by decide +kernel
theorem d_La_law_235 : decode code 235 = .ok (.iadd, 1) := by decide +kernel
theorem d_La_law_236 : decode code 236 = .ok (.iaload, 1) := by decide +kernel
theorem d_La_law_237 : decode code 237 = .ok (.aload_n 0, 1) := by decide +kernel
theorem d_La_law_238 : decode code 238 = .ok (.iload_n 3, 1) := by decide +kernel
theorem d_La_law_239 : decode code 239 = .ok (.iconst 2, 1) := by decide +kernel
theorem d_La_law_240 : decode code 240 = .ok (.iadd, 1) := by decide +kernel
theorem d_La_law_241 : decode code 241 = .ok (.iaload, 1) := by decide +kernel
theorem d_La_law_242 : decode code 242 = .ok (.invokevirtual 36, 3) := by decide +kernel
theorem d_La_law_245 : decode code 245 = .ok (.aload_n 2, 1) := by decide +kernel
theorem d_La_law_246 : decode code 246 = .ok (.aload_n 0, 1) := by decide +kernel
theorem d_La_law_247 : decode code 247 = .ok (.iload_n 3, 1) := by decide +kernel
theorem d_La_law_248 : decode code 248 = .ok (.iconst 1, 1) := by decide +kernel
theorem d_La_law_249 : decode code 249 = .ok (.iadd, 1) := by decide +kernel
theorem d_La_law_250 : decode code 250 = .ok (.iaload, 1) := by decide +kernel
theorem d_La_law_251 : decode code 251 = .ok (.aload_n 0, 1) := by decide +kernel
theorem d_La_law_252 : decode code 252 = .ok (.iload_n 3, 1) := by decide +kernel
theorem d_La_law_253 : decode code 253 = .ok (.iconst 2, 1) := by decide +kernel
theorem d_La_law_254 : decode code 254 = .ok (.iadd, 1) := by decide +kernel
theorem d_La_law_255 : decode code 255 = .ok (.iaload, 1) := by decide +kernel
theorem d_La_law_256 : decode code 256 = .ok (.invokevirtual 39, 3) := by decide +kernel
theorem d_La_law_259 : decode code 259 = .ok (.if_icmp .eq 470, 3) := by decide +kernel
theorem d_La_law_262 : decode code 262 = .ok (.iconst 0, 1) := by decide +kernel
theorem d_La_law_263 : decode code 263 = .ok (.ireturn, 1) := by decide +kernel
theorem d_La_law_264 : decode code 264 = .ok (.aload_n 1, 1) := by decide +kernel
theorem d_La_law_265 : decode code 265 = .ok (.aload_n 0, 1) := by decide +kernel
theorem d_La_law_266 : decode code 266 = .ok (.iload_n 3, 1) := by decide +kernel
theorem d_La_law_267 : decode code 267 = .ok (.iconst 1, 1) := by decide +kernel
theorem d_La_law_268 : decode code 268 = .ok (.iadd, 1) := by decide +kernel
theorem d_La_law_269 : decode code 269 = .ok (.iaload, 1) := by decide +kernel
theorem d_La_law_270 : decode code 270 = .ok (.aload_n 0, 1) := by decide +kernel
theorem d_La_law_271 : decode code 271 = .ok (.iload_n 3, 1) := by decide +kernel
theorem d_La_law_272 : decode code 272 = .ok (.iconst 2, 1) := by decide +kernel
theorem d_La_law_273 : decode code 273 = .ok (.iadd, 1) := by decide +kernel
theorem d_La_law_274 : decode code 274 = .ok (.iaload, 1) := by decide +kernel
theorem d_La_law_275 : decode code 275 = .ok (.invokevirtual 40, 3) := by decide +kernel
theorem d_La_law_278 : decode code 278 = .ok (.aload_n 2, 1) := by decide +kernel
theorem d_La_law_279 : decode code 279 = .ok (.aload_n 0, 1) := by decide +kernel
theorem d_La_law_280 : decode code 280 = .ok (.iload_n 3, 1) := by decide +kernel
theorem d_La_law_281 : decode code 281 = .ok (.iconst 1, 1) := by decide +kernel
theorem d_La_law_282 : decode code 282 = .ok (.iadd, 1) := by decide +kernel
theorem d_La_law_283 : decode code 283 = .ok (.iaload, 1) := by decide +kernel
theorem d_La_law_284 : decode code 284 = .ok (.aload_n 0, 1) := by decide +kernel
theorem d_La_law_285 : decode code 285 = .ok (.iload_n 3, 1) := by decide +kernel
theorem d_La_law_286 : decode code 286 = .ok (.iconst 2, 1) := by decide +kernel
theorem d_La_law_287 : decode code 287 = .ok (.iadd, 1) := by decide +kernel
theorem d_La_law_288 : decode code 288 = .ok (.iaload, 1) := by decide +kernel
theorem d_La_law_289 : decode code 289 = .ok (.invokevirtual 43, 3) := by decide +kernel
theorem d_La_law_292 : decode code 292 = .ok (.if_icmp .eq 437, 3) := by decide +kernel
theorem d_La_law_295 : decode code 295 = .ok (.iconst 0, 1) := by decide +kernel
theorem d_La_law_296 : decode code 296 = .ok (.ireturn, 1) := by decide +kernel
theorem d_La_law_297 : decode code 297 = .ok (.aload_n 1, 1) := by decide +kernel
theorem d_La_law_298 : decode code 298 = .ok (.aload_n 0, 1) := by decide +kernel
theorem d_La_law_299 : decode code 299 = .ok (.iload_n 3, 1) := by decide +kernel
theorem d_La_law_300 : decode code 300 = .ok (.iconst 1, 1) := by decide +kernel
theorem d_La_law_301 : decode code 301 = .ok (.iadd, 1) := by decide +kernel
theorem d_La_law_302 : decode code 302 = .ok (.iaload, 1) := by decide +kernel
theorem d_La_law_303 : decode code 303 = .ok (.aload_n 0, 1) := by decide +kernel
theorem d_La_law_304 : decode code 304 = .ok (.iload_n 3, 1) := by decide +kernel
theorem d_La_law_305 : decode code 305 = .ok (.iconst 2, 1) := by decide +kernel
theorem d_La_law_306 : decode code 306 = .ok (.iadd, 1) := by decide +kernel
theorem d_La_law_307 : decode code 307 = .ok (.iaload, 1) := by decide +kernel
theorem d_La_law_308 : decode code 308 = .ok (.invokevirtual 44, 3) := by decide +kernel
theorem d_La_law_311 : decode code 311 = .ok (.aload_n 2, 1) := by decide +kernel
theorem d_La_law_312 : decode code 312 = .ok (.aload_n 0, 1) := by decide +kernel
theorem d_La_law_313 : decode code 313 = .ok (.iload_n 3, 1) := by decide +kernel
theorem d_La_law_314 : decode code 314 = .ok (.iconst 1, 1) := by decide +kernel
theorem d_La_law_315 : decode code 315 = .ok (.iadd, 1) := by decide +kernel
theorem d_La_law_316 : decode code 316 = .ok (.iaload, 1) := by decide +kernel
theorem d_La_law_317 : decode code 317 = .ok (.aload_n 0, 1) := by decide +kernel
theorem d_La_law_318 : decode code 318 = .ok (.iload_n 3, 1) := by decide +kernel
theorem d_La_law_319 : decode code 319 = .ok (.iconst 2, 1) := by decide +kernel
theorem d_La_law_320 : decode code 320 = .ok (.iadd, 1) := by decide +kernel
theorem d_La_law_321 : decode code 321 = .ok (.iaload, 1) := by decide +kernel
theorem d_La_law_322 : decode code 322 = .ok (.invokevirtual 47, 3) := by decide +kernel
theorem d_La_law_325 : decode code 325 = .ok (.if_icmp .eq 404, 3) := by decide +kernel
theorem d_La_law_328 : decode code 328 = .ok (.iconst 0, 1) := by decide +kernel
theorem d_La_law_329 : decode code 329 = .ok (.ireturn, 1) := by decide +kernel
theorem d_La_law_330 : decode code 330 = .ok (.aload_n 1, 1) := by decide +kernel
theorem d_La_law_331 : decode code 331 = .ok (.invokevirtual 48, 3) := by decide +kernel
theorem d_La_law_334 : decode code 334 = .ok (.aload_n 2, 1) := by decide +kernel
theorem d_La_law_335 : decode code 335 = .ok (.invokevirtual 51, 3) := by decide +kernel
theorem d_La_law_338 : decode code 338 = .ok (.if_icmp .eq 391, 3) := by decide +kernel
theorem d_La_law_341 : decode code 341 = .ok (.iconst 0, 1) := by decide +kernel
theorem d_La_law_342 : decode code 342 = .ok (.ireturn, 1) := by decide +kernel
theorem d_La_law_343 : decode code 343 = .ok (.aload_n 1, 1) := by decide +kernel
theorem d_La_law_344 : decode code 344 = .ok (.aload_n 0, 1) := by decide +kernel
theorem d_La_law_345 : decode code 345 = .ok (.iload_n 3, 1) := by decide +kernel
theorem d_La_law_346 : decode code 346 = .ok (.iconst 1, 1) := by decide +kernel
theorem d_La_law_347 : decode code 347 = .ok (.iadd, 1) := by decide +kernel
theorem d_La_law_348 : decode code 348 = .ok (.iaload, 1) := by decide +kernel
theorem d_La_law_349 : decode code 349 = .ok (.aload_n 0, 1) := by decide +kernel
theorem d_La_law_350 : decode code 350 = .ok (.iload_n 3, 1) := by decide +kernel
theorem d_La_law_351 : decode code 351 = .ok (.iconst 2, 1) := by decide +kernel
theorem d_La_law_352 : decode code 352 = .ok (.iadd, 1) := by decide +kernel
theorem d_La_law_353 : decode code 353 = .ok (.iaload, 1) := by decide +kernel
theorem d_La_law_354 : decode code 354 = .ok (.invokevirtual 52, 3) := by decide +kernel
theorem d_La_law_357 : decode code 357 = .ok (.aload_n 2, 1) := by decide +kernel
theorem d_La_law_358 : decode code 358 = .ok (.aload_n 0, 1) := by decide +kernel
theorem d_La_law_359 : decode code 359 = .ok (.iload_n 3, 1) := by decide +kernel
theorem d_La_law_360 : decode code 360 = .ok (.iconst 1, 1) := by decide +kernel
theorem d_La_law_361 : decode code 361 = .ok (.iadd, 1) := by decide +kernel
theorem d_La_law_362 : decode code 362 = .ok (.iaload, 1) := by decide +kernel
theorem d_La_law_363 : decode code 363 = .ok (.aload_n 0, 1) := by decide +kernel
theorem d_La_law_364 : decode code 364 = .ok (.iload_n 3, 1) := by decide +kernel
theorem d_La_law_365 : decode code 365 = .ok (.iconst 2, 1) := by decide +kernel
theorem d_La_law_366 : decode code 366 = .ok (.iadd, 1) := by decide +kernel
theorem d_La_law_367 : decode code 367 = .ok (.iaload, 1) := by decide +kernel
theorem d_La_law_368 : decode code 368 = .ok (.invokevirtual 55, 3) := by decide +kernel
theorem d_La_law_371 : decode code 371 = .ok (.if_icmp .eq 358, 3) := by decide +kernel
theorem d_La_law_374 : decode code 374 = .ok (.iconst 0, 1) := by decide +kernel
theorem d_La_law_375 : decode code 375 = .ok (.ireturn, 1) := by decide +kernel
theorem d_La_law_376 : decode code 376 = .ok (.aload_n 1, 1) := by decide +kernel
theorem d_La_law_377 : decode code 377 = .ok (.aload_n 0, 1) := by decide +kernel
theorem d_La_law_378 : decode code 378 = .ok (.iload_n 3, 1) := by decide +kernel
theorem d_La_law_379 : decode code 379 = .ok (.iconst 1, 1) := by decide +kernel
theorem d_La_law_380 : decode code 380 = .ok (.iadd, 1) := by decide +kernel
theorem d_La_law_381 : decode code 381 = .ok (.iaload, 1) := by decide +kernel
theorem d_La_law_382 : decode code 382 = .ok (.aload_n 0, 1) := by decide +kernel
theorem d_La_law_383 : decode code 383 = .ok (.iload_n 3, 1) := by decide +kernel
theorem d_La_law_384 : decode code 384 = .ok (.iconst 2, 1) := by decide +kernel
theorem d_La_law_385 : decode code 385 = .ok (.iadd, 1) := by decide +kernel
theorem d_La_law_386 : decode code 386 = .ok (.iaload, 1) := by decide +kernel
theorem d_La_law_387 : decode code 387 = .ok (.aload_n 0, 1) := by decide +kernel
theorem d_La_law_388 : decode code 388 = .ok (.iload_n 3, 1) := by decide +kernel
theorem d_La_law_389 : decode code 389 = .ok (.iconst 3, 1) := by decide +kernel
theorem d_La_law_390 : decode code 390 = .ok (.iadd, 1) := by decide +kernel
theorem d_La_law_391 : decode code 391 = .ok (.iaload, 1) := by decide +kernel
theorem d_La_law_392 : decode code 392 = .ok (.invokevirtual 56, 3) := by decide +kernel
theorem d_La_law_395 : decode code 395 = .ok (.aload_n 2, 1) := by decide +kernel
theorem d_La_law_396 : decode code 396 = .ok (.aload_n 0, 1) := by decide +kernel
theorem d_La_law_397 : decode code 397 = .ok (.iload_n 3, 1) := by decide +kernel
theorem d_La_law_398 : decode code 398 = .ok (.iconst 1, 1) := by decide +kernel
theorem d_La_law_399 : decode code 399 = .ok (.iadd, 1) := by decide +kernel
theorem d_La_law_400 : decode code 400 = .ok (.iaload, 1) := by decide +kernel
theorem d_La_law_401 : decode code 401 = .ok (.aload_n 0, 1) := by decide +kernel
theorem d_La_law_402 : decode code 402 = .ok (.iload_n 3, 1) := by decide +kernel
theorem d_La_law_403 : decode code 403 = .ok (.iconst 2, 1) := by decide +kernel
theorem d_La_law_404 : decode code 404 = .ok (.iadd, 1) := by decide +kernel
theorem d_La_law_405 : decode code 405 = .ok (.iaload, 1) := by decide +kernel
theorem d_La_law_406 : decode code 406 = .ok (.aload_n 0, 1) := by decide +kernel
theorem d_La_law_407 : decode code 407 = .ok (.iload_n 3, 1) := by decide +kernel
theorem d_La_law_408 : decode code 408 = .ok (.iconst 3, 1) := by decide +kernel
theorem d_La_law_409 : decode code 409 = .ok (.iadd, 1) := by decide +kernel
theorem d_La_law_410 : decode code 410 = .ok (.iaload, 1) := by decide +kernel
theorem d_La_law_411 : decode code 411 = .ok (.invokevirtual 60, 3) := by decide +kernel
theorem d_La_law_414 : decode code 414 = .ok (.if_icmp .eq 315, 3) := by decide +kernel
theorem d_La_law_417 : decode code 417 = .ok (.iconst 0, 1) := by decide +kernel
theorem d_La_law_418 : decode code 418 = .ok (.ireturn, 1) := by decide +kernel
theorem d_La_law_419 : decode code 419 = .ok (.aload_n 1, 1) := by decide +kernel
theorem d_La_law_420 : decode code 420 = .ok (.aload_n 0, 1) := by decide +kernel
theorem d_La_law_421 : decode code 421 = .ok (.iload_n 3, 1) := by decide +kernel
theorem d_La_law_422 : decode code 422 = .ok (.iconst 1, 1) := by decide +kernel
theorem d_La_law_423 : decode code 423 = .ok (.iadd, 1) := by decide +kernel
theorem d_La_law_424 : decode code 424 = .ok (.iaload, 1) := by decide +kernel
theorem d_La_law_425 : decode code 425 = .ok (.invokevirtual 61, 3) := by decide +kernel
theorem d_La_law_428 : decode code 428 = .ok (.aload_n 2, 1) := by decide +kernel
theorem d_La_law_429 : decode code 429 = .ok (.aload_n 0, 1) := by decide +kernel
theorem d_La_law_430 : decode code 430 = .ok (.iload_n 3, 1) := by decide +kernel
theorem d_La_law_431 : decode code 431 = .ok (.iconst 1, 1) := by decide +kernel
theorem d_La_law_432 : decode code 432 = .ok (.iadd, 1) := by decide +kernel
theorem d_La_law_433 : decode code 433 = .ok (.iaload, 1) := by decide +kernel
theorem d_La_law_434 : decode code 434 = .ok (.invokevirtual 64, 3) := by decide +kernel
theorem d_La_law_437 : decode code 437 = .ok (.if_icmp .eq 292, 3) := by decide +kernel
theorem d_La_law_440 : decode code 440 = .ok (.iconst 0, 1) := by decide +kernel
theorem d_La_law_441 : decode code 441 = .ok (.ireturn, 1) := by decide +kernel
theorem d_La_law_442 : decode code 442 = .ok (.aload_n 1, 1) := by decide +kernel
theorem d_La_law_443 : decode code 443 = .ok (.aload_n 0, 1) := by decide +kernel
theorem d_La_law_444 : decode code 444 = .ok (.iload_n 3, 1) := by decide +kernel
theorem d_La_law_445 : decode code 445 = .ok (.iconst 1, 1) := by decide +kernel
theorem d_La_law_446 : decode code 446 = .ok (.iadd, 1) := by decide +kernel
theorem d_La_law_447 : decode code 447 = .ok (.iaload, 1) := by decide +kernel
theorem d_La_law_448 : decode code 448 = .ok (.invokevirtual 65, 3) := by decide +kernel
theorem d_La_law_451 : decode code 451 = .ok (.aload_n 2, 1) := by decide +kernel
theorem d_La_law_452 : decode code 452 = .ok (.aload_n 0, 1) := by decide +kernel
theorem d_La_law_453 : decode code 453 = .ok (.iload_n 3, 1) := by decide +kernel
theorem d_La_law_454 : decode code 454 = .ok (.iconst 1, 1) := by decide +kernel
theorem d_La_law_455 : decode code 455 = .ok (.iadd, 1) := by decide +kernel
theorem d_La_law_456 : decode code 456 = .ok (.iaload, 1) := by decide +kernel
theorem d_La_law_457 : decode code 457 = .ok (.invokevirtual 68, 3) := by decide +kernel
theorem d_La_law_460 : decode code 460 = .ok (.if_icmp .eq 269, 3) := by decide +kernel
theorem d_La_law_463 : decode code 463 = .ok (.iconst 0, 1) := by decide +kernel
theorem d_La_law_464 : decode code 464 = .ok (.ireturn, 1) := by decide +kernel
theorem d_La_law_465 : decode code 465 = .ok (.aload_n 1, 1) := by decide +kernel
theorem d_La_law_466 : decode code 466 = .ok (.aload_n 0, 1) := by decide +kernel
theorem d_La_law_467 : decode code 467 = .ok (.iload_n 3, 1) := by decide +kernel
theorem d_La_law_468 : decode code 468 = .ok (.iconst 1, 1) := by decide +kernel
theorem d_La_law_469 : decode code 469 = .ok (.iadd, 1) := by decide +kernel
theorem d_La_law_470 : decode code 470 = .ok (.iaload, 1) := by decide +kernel
theorem d_La_law_471 : decode code 471 = .ok (.aload_n 0, 1) := by decide +kernel
theorem d_La_law_472 : decode code 472 = .ok (.iload_n 3, 1) := by decide +kernel
theorem d_La_law_473 : decode code 473 = .ok (.iconst 2, 1) := by decide +kernel
theorem d_La_law_474 : decode code 474 = .ok (.iadd, 1) := by decide +kernel
theorem d_La_law_475 : decode code 475 = .ok (.iaload, 1) := by decide +kernel
theorem d_La_law_476 : decode code 476 = .ok (.invokevirtual 69, 3) := by decide +kernel
theorem d_La_law_479 : decode code 479 = .ok (.aload_n 2, 1) := by decide +kernel
theorem d_La_law_480 : decode code 480 = .ok (.aload_n 0, 1) := by decide +kernel
theorem d_La_law_481 : decode code 481 = .ok (.iload_n 3, 1) := by decide +kernel
theorem d_La_law_482 : decode code 482 = .ok (.iconst 1, 1) := by decide +kernel
theorem d_La_law_483 : decode code 483 = .ok (.iadd, 1) := by decide +kernel
theorem d_La_law_484 : decode code 484 = .ok (.iaload, 1) := by decide +kernel
theorem d_La_law_485 : decode code 485 = .ok (.aload_n 0, 1) := by decide +kernel
theorem d_La_law_486 : decode code 486 = .ok (.iload_n 3, 1) := by decide +kernel
theorem d_La_law_487 : decode code 487 = .ok (.iconst 2, 1) := by decide +kernel
theorem d_La_law_488 : decode code 488 = .ok (.iadd, 1) := by decide +kernel
theorem d_La_law_489 : decode code 489 = .ok (.iaload, 1) := by decide +kernel
theorem d_La_law_490 : decode code 490 = .ok (.invokevirtual 72, 3) := by decide +kernel
theorem d_La_law_493 : decode code 493 = .ok (.if_icmp .eq 236, 3) := by decide +kernel
theorem d_La_law_496 : decode code 496 = .ok (.iconst 0, 1) := by decide +kernel
theorem d_La_law_497 : decode code 497 = .ok (.ireturn, 1) := by decide +kernel
theorem d_La_law_498 : decode code 498 = .ok (.aload_n 1, 1) := by decide +kernel
theorem d_La_law_499 : decode code 499 = .ok (.aload_n 0, 1) := by decide +kernel
theorem d_La_law_500 : decode code 500 = .ok (.iload_n 3, 1) := by decide +kernel
theorem d_La_law_501 : decode code 501 = .ok (.iconst 1, 1) := by decide +kernel
theorem d_La_law_502 : decode code 502 = .ok (.iadd, 1) := by decide +kernel
theorem d_La_law_503 : decode code 503 = .ok (.iaload, 1) := by decide +kernel
theorem d_La_law_504 : decode code 504 = .ok (.aload_n 0, 1) := by decide +kernel
theorem d_La_law_505 : decode code 505 = .ok (.iload_n 3, 1) := by decide +kernel
theorem d_La_law_506 : decode code 506 = .ok (.iconst 2, 1) := by decide +kernel
theorem d_La_law_507 : decode code 507 = .ok (.iadd, 1) := by decide +kernel
theorem d_La_law_508 : decode code 508 = .ok (.iaload, 1) := by decide +kernel
theorem d_La_law_509 : decode code 509 = .ok (.aload_n 0, 1) := by decide +kernel
theorem d_La_law_510 : decode code 510 = .ok (.iload_n 3, 1) := by decide +kernel
theorem d_La_law_511 : decode code 511 = .ok (.iconst 3, 1) := by decide +kernel
theorem d_La_law_512 : decode code 512 = .ok (.iadd, 1) := by decide +kernel
theorem d_La_law_513 : decode code 513 = .ok (.iaload, 1) := by decide +kernel
theorem d_La_law_514 : decode code 514 = .ok (.aload_n 0, 1) := by decide +kernel
theorem d_La_law_515 : decode code 515 = .ok (.iload_n 3, 1) := by decide +kernel
theorem d_La_law_516 : decode code 516 = .ok (.iconst 4, 1) := by decide +kernel
theorem d_La_law_517 : decode code 517 = .ok (.iadd, 1) := by decide +kernel
theorem d_La_law_518 : decode code 518 = .ok (.iaload, 1) := by decide +kernel
theorem d_La_law_519 : decode code 519 = .ok (.invokevirtual 73, 3) := by decide +kernel
theorem d_La_law_522 : decode code 522 = .ok (.aload_n 2, 1) := by decide +kernel
theorem d_La_law_523 : decode code 523 = .ok (.aload_n 0, 1) := by decide +kernel
theorem d_La_law_524 : decode code 524 = .ok (.iload_n 3, 1) := by decide +kernel
theorem d_La_law_525 : decode code 525 = .ok (.iconst 1, 1) := by decide +kernel
theorem d_La_law_526 : decode code 526 = .ok (.iadd, 1) := by decide +kernel
theorem d_La_law_527 : decode code 527 = .ok (.iaload, 1) := by decide +kernel
theorem d_La_law_528 : decode code 528 = .ok (.aload_n 0, 1) := by decide +kernel
theorem d_La_law_529 : decode code 529 = .ok (.iload_n 3, 1) := by decide +kernel
theorem d_La_law_530 : decode code 530 = .ok (.iconst 2, 1) := by decide +kernel
theorem d_La_law_531 : decode code 531 = .ok (.iadd, 1) := by decide +kernel
theorem d_La_law_532 : decode code 532 = .ok (.iaload, 1) := by decide +kernel
theorem d_La_law_533 : decode code 533 = .ok (.aload_n 0, 1) := by decide +kernel
theorem d_La_law_534 : decode code 534 = .ok (.iload_n 3, 1) := by decide +kernel
theorem d_La_law_535 : decode code 535 = .ok (.iconst 3, 1) := by decide +kernel
theorem d_La_law_536 : decode code 536 = .ok (.iadd, 1) := by decide +kernel
theorem d_La_law_537 : decode code 537 = .ok (.iaload, 1) := by decide +kernel
theorem d_La_law_538 : decode code 538 = .ok (.aload_n 0, 1) := by decide +kernel
theorem d_La_law_539 : decode code 539 = .ok (.iload_n 3, 1) := by decide +kernel
theorem d_La_law_540 : decode code 540 = .ok (.iconst 4, 1) := by decide +kernel
theorem d_La_law_541 : decode code 541 = .ok (.iadd, 1) := by decide +kernel
theorem d_La_law_542 : decode code 542 = .ok (.iaload, 1) := by decide +kernel
theorem d_La_law_543 : decode code 543 = .ok (.invokevirtual 77, 3) := by decide +kernel
theorem d_La_law_546 : decode code 546 = .ok (.if_icmp .eq 183, 3) := by decide +kernel
theorem d_La_law_549 : decode code 549 = .ok (.iconst 0, 1) := by decide +kernel
theorem d_La_law_550 : decode code 550 = .ok (.ireturn, 1) := by decide +kernel
theorem d_La_law_551 : decode code 551 = .ok (.aload_n 1, 1) := by decide +kernel
theorem d_La_law_552 : decode code 552 = .ok (.aload_n 0, 1) := by decide +kernel
theorem d_La_law_553 : decode code 553 = .ok (.iload_n 3, 1) := by decide +kernel
theorem d_La_law_554 : decode code 554 = .ok (.iconst 1, 1) := by decide +kernel
theorem d_La_law_555 : decode code 555 = .ok (.iadd, 1) := by decide +kernel
theorem d_La_law_556 : decode code 556 = .ok (.iaload, 1) := by decide +kernel
theorem d_La_law_557 : decode code 557 = .ok (.aload_n 0, 1) := by decide +kernel
theorem d_La_law_558 : decode code 558 = .ok (.iload_n 3, 1) := by decide +kernel
theorem d_La_law_559 : decode code 559 = .ok (.iconst 2, 1) := by decide +kernel
theorem d_La_law_560 : decode code 560 = .ok (.iadd, 1) := by decide +kernel
theorem d_La_law_561 : decode code 561 = .ok (.iaload, 1) := by decide +kernel
theorem d_La_law_562 : decode code 562 = .ok (.aload_n 0, 1) := by decide +kernel
theorem d_La_law_563 : decode code 563 = .ok (.iload_n 3, 1) := by decide +kernel
theorem d_La_law_564 : decode code 564 = .ok (.iconst 3, 1) := by decide +kernel
theorem d_La_law_565 : decode code 565 = .ok (.iadd, 1) := by decide +kernel
theorem d_La_law_566 : decode code 566 = .ok (.iaload, 1) := by decide +kernel
theorem d_La_law_567 : decode code 567 = .ok (.ifCond .eq 7, 3) := by decide +kernel
theorem d_La_law_570 : decode code 570 = .ok (.iconst 1, 1) := by decide +kernel
theorem d_La_law_571 : decode code 571 = .ok (.goto 4, 3) := by decide +kernel
theorem d_La_law_574 : decode code 574 = .ok (.iconst 0, 1) := by decide +kernel
theorem d_La_law_575 : decode code 575 = .ok (.invokevirtual 78, 3) := by decide +kernel
theorem d_La_law_578 : decode code 578 = .ok (.aload_n 2, 1) := by decide +kernel
theorem d_La_law_579 : decode code 579 = .ok (.aload_n 0, 1) := by decide +kernel
theorem d_La_law_580 : decode code 580 = .ok (.iload_n 3, 1) := by decide +kernel
theorem d_La_law_581 : decode code 581 = .ok (.iconst 1, 1) := by decide +kernel
theorem d_La_law_582 : decode code 582 = .ok (.iadd, 1) := by decide +kernel
theorem d_La_law_583 : decode code 583 = .ok (.iaload, 1) := by decide +kernel
theorem d_La_law_584 : decode code 584 = .ok (.aload_n 0, 1) := by decide +kernel
theorem d_La_law_585 : decode code 585 = .ok (.iload_n 3, 1) := by decide +kernel
theorem d_La_law_586 : decode code 586 = .ok (.iconst 2, 1) := by decide +kernel
theorem d_La_law_587 : decode code 587 = .ok (.iadd, 1) := by decide +kernel
theorem d_La_law_588 : decode code 588 = .ok (.iaload, 1) := by decide +kernel
theorem d_La_law_589 : decode code 589 = .ok (.aload_n 0, 1) := by decide +kernel
theorem d_La_law_590 : decode code 590 = .ok (.iload_n 3, 1) := by decide +kernel
theorem d_La_law_591 : decode code 591 = .ok (.iconst 3, 1) := by decide +kernel
theorem d_La_law_592 : decode code 592 = .ok (.iadd, 1) := by decide +kernel
theorem d_La_law_593 : decode code 593 = .ok (.iaload, 1) := by decide +kernel
theorem d_La_law_594 : decode code 594 = .ok (.ifCond .eq 7, 3) := by decide +kernel
theorem d_La_law_597 : decode code 597 = .ok (.iconst 1, 1) := by decide +kernel
theorem d_La_law_598 : decode code 598 = .ok (.goto 4, 3) := by decide +kernel
theorem d_La_law_601 : decode code 601 = .ok (.iconst 0, 1) := by decide +kernel
theorem d_La_law_602 : decode code 602 = .ok (.invokevirtual 82, 3) := by decide +kernel
theorem d_La_law_605 : decode code 605 = .ok (.if_icmp .eq 124, 3) := by decide +kernel
theorem d_La_law_608 : decode code 608 = .ok (.iconst 0, 1) := by decide +kernel
theorem d_La_law_609 : decode code 609 = .ok (.ireturn, 1) := by decide +kernel
theorem d_La_law_610 : decode code 610 = .ok (.aload_n 1, 1) := by decide +kernel
theorem d_La_law_611 : decode code 611 = .ok (.invokevirtual 83, 3) := by decide +kernel
theorem d_La_law_614 : decode code 614 = .ok (.aload_n 2, 1) := by decide +kernel
theorem d_La_law_615 : decode code 615 = .ok (.invokevirtual 86, 3) := by decide +kernel
theorem d_La_law_618 : decode code 618 = .ok (.if_icmp .eq 111, 3) := by decide +kernel
theorem d_La_law_621 : decode code 621 = .ok (.iconst 0, 1) := by decide +kernel
theorem d_La_law_622 : decode code 622 = .ok (.ireturn, 1) := by decide +kernel
theorem d_La_law_623 : decode code 623 = .ok (.aload_n 1, 1) := by decide +kernel
theorem d_La_law_624 : decode code 624 = .ok (.aload_n 0, 1) := by decide +kernel
theorem d_La_law_625 : decode code 625 = .ok (.iload_n 3, 1) := by decide +kernel
theorem d_La_law_626 : decode code 626 = .ok (.iconst 1, 1) := by decide +kernel
theorem d_La_law_627 : decode code 627 = .ok (.iadd, 1) := by decide +kernel
theorem d_La_law_628 : decode code 628 = .ok (.iaload, 1) := by decide +kernel
theorem d_La_law_629 : decode code 629 = .ok (.aload_n 0, 1) := by decide +kernel
theorem d_La_law_630 : decode code 630 = .ok (.iload_n 3, 1) := by decide +kernel
theorem d_La_law_631 : decode code 631 = .ok (.iconst 2, 1) := by decide +kernel
theorem d_La_law_632 : decode code 632 = .ok (.iadd, 1) := by decide +kernel
theorem d_La_law_633 : decode code 633 = .ok (.iaload, 1) := by decide +kernel
theorem d_La_law_634 : decode code 634 = .ok (.aload_n 0, 1) := by decide +kernel
theorem d_La_law_635 : decode code 635 = .ok (.iload_n 3, 1) := by decide +kernel
theorem d_La_law_636 : decode code 636 = .ok (.iconst 3, 1) := by decide +kernel
theorem d_La_law_637 : decode code 637 = .ok (.iadd, 1) := by decide +kernel
theorem d_La_law_638 : decode code 638 = .ok (.iaload, 1) := by decide +kernel
theorem d_La_law_639 : decode code 639 = .ok (.invokevirtual 87, 3) := by decide +kernel
theorem d_La_law_642 : decode code 642 = .ok (.aload_n 2, 1) := by decide +kernel
theorem d_La_law_643 : decode code 643 = .ok (.aload_n 0, 1) := by decide +kernel
theorem d_La_law_644 : decode code 644 = .ok (.iload_n 3, 1) := by decide +kernel
theorem d_La_law_645 : decode code 645 = .ok (.iconst 1, 1) := by decide +kernel
theorem d_La_law_646 : decode code 646 = .ok (.iadd, 1) := by decide +kernel
theorem d_La_law_647 : decode code 647 = .ok (.iaload, 1) := by decide +kernel
theorem d_La_law_648 : decode code 648 = .ok (.aload_n 0, 1) := by decide +kernel
theorem d_La_law_649 : decode code 649 = .ok (.iload_n 3, 1) := by decide +kernel
theorem d_La_law_650 : decode code 650 = .ok (.iconst 2, 1) := by decide +kernel
theorem d_La_law_651 : decode code 651 = .ok (.iadd, 1) := by decide +kernel
theorem d_La_law_652 : decode code 652 = .ok (.iaload, 1) := by decide +kernel
theorem d_La_law_653 : decode code 653 = .ok (.aload_n 0, 1) := by decide +kernel
theorem d_La_law_654 : decode code 654 = .ok (.iload_n 3, 1) := by decide +kernel
theorem d_La_law_655 : decode code 655 = .ok (.iconst 3, 1) := by decide +kernel
theorem d_La_law_656 : decode code 656 = .ok (.iadd, 1) := by decide +kernel
theorem d_La_law_657 : decode code 657 = .ok (.iaload, 1) := by decide +kernel
theorem d_La_law_658 : decode code 658 = .ok (.invokevirtual 90, 3) := by decide +kernel
theorem d_La_law_661 : decode code 661 = .ok (.if_icmp .eq 68, 3) := by decide +kernel
theorem d_La_law_664 : decode code 664 = .ok (.iconst 0, 1) := by decide +kernel
theorem d_La_law_665 : decode code 665 = .ok (.ireturn, 1) := by decide +kernel
theorem d_La_law_666 : decode code 666 = .ok (.aload_n 1, 1) := by decide +kernel
theorem d_La_law_667 : decode code 667 = .ok (.invokevirtual 91, 3) := by decide +kernel
theorem d_La_law_670 : decode code 670 = .ok (.aload_n 2, 1) := by decide +kernel
theorem d_La_law_671 : decode code 671 = .ok (.invokevirtual 94, 3) := by decide +kernel
theorem d_La_law_674 : decode code 674 = .ok (.if_icmp .eq 55, 3) := by decide +kernel
theorem d_La_law_677 : decode code 677 = .ok (.iconst 0, 1) := by decide +kernel
theorem d_La_law_678 : decode code 678 = .ok (.ireturn, 1) := by decide +kernel
theorem d_La_law_679 : decode code 679 = .ok (.aload_n 1, 1) := by decide +kernel
theorem d_La_law_680 : decode code 680 = .ok (.invokevirtual 95, 3) := by decide +kernel
theorem d_La_law_683 : decode code 683 = .ok (.aload_n 2, 1) := by decide +kernel
theorem d_La_law_684 : decode code 684 = .ok (.invokevirtual 98, 3) := by decide +kernel
theorem d_La_law_687 : decode code 687 = .ok (.if_icmp .eq 42, 3) := by decide +kernel
theorem d_La_law_690 : decode code 690 = .ok (.iconst 0, 1) := by decide +kernel
theorem d_La_law_691 : decode code 691 = .ok (.ireturn, 1) := by decide +kernel
theorem d_La_law_692 : decode code 692 = .ok (.aload_n 1, 1) := by decide +kernel
theorem d_La_law_693 : decode code 693 = .ok (.aload_n 0, 1) := by decide +kernel
theorem d_La_law_694 : decode code 694 = .ok (.iload_n 3, 1) := by decide +kernel
theorem d_La_law_695 : decode code 695 = .ok (.iconst 1, 1) := by decide +kernel
theorem d_La_law_696 : decode code 696 = .ok (.iadd, 1) := by decide +kernel
theorem d_La_law_697 : decode code 697 = .ok (.iaload, 1) := by decide +kernel
theorem d_La_law_698 : decode code 698 = .ok (.invokevirtual 99, 3) := by decide +kernel
theorem d_La_law_701 : decode code 701 = .ok (.aload_n 2, 1) := by decide +kernel
theorem d_La_law_702 : decode code 702 = .ok (.aload_n 0, 1) := by decide +kernel
theorem d_La_law_703 : decode code 703 = .ok (.iload_n 3, 1) := by decide +kernel
theorem d_La_law_704 : decode code 704 = .ok (.iconst 1, 1) := by decide +kernel
theorem d_La_law_705 : decode code 705 = .ok (.iadd, 1) := by decide +kernel
theorem d_La_law_706 : decode code 706 = .ok (.iaload, 1) := by decide +kernel
theorem d_La_law_707 : decode code 707 = .ok (.invokevirtual 102, 3) := by decide +kernel
theorem d_La_law_710 : decode code 710 = .ok (.if_icmp .eq 19, 3) := by decide +kernel
theorem d_La_law_713 : decode code 713 = .ok (.iconst 0, 1) := by decide +kernel
theorem d_La_law_714 : decode code 714 = .ok (.ireturn, 1) := by decide +kernel
theorem d_La_law_715 : decode code 715 = .ok (.aload_n 1, 1) := by decide +kernel
theorem d_La_law_716 : decode code 716 = .ok (.invokevirtual 103, 3) := by decide +kernel
theorem d_La_law_719 : decode code 719 = .ok (.aload_n 2, 1) := by decide +kernel
theorem d_La_law_720 : decode code 720 = .ok (.invokevirtual 107, 3) := by decide +kernel
theorem d_La_law_723 : decode code 723 = .ok (.lcmp, 1) := by decide +kernel
theorem d_La_law_724 : decode code 724 = .ok (.ifCond .eq 5, 3) := by decide +kernel
theorem d_La_law_727 : decode code 727 = .ok (.iconst 0, 1) := by decide +kernel
theorem d_La_law_728 : decode code 728 = .ok (.ireturn, 1) := by decide +kernel
theorem d_La_law_729 : decode code 729 = .ok (.iinc 3 5, 3) := by decide +kernel
theorem d_La_law_732 : decode code 732 = .ok (.goto (-714), 3) := by decide +kernel
theorem d_La_law_735 : decode code 735 = .ok (.iconst 1, 1) := by decide +kernel
theorem d_La_law_736 : decode code 736 = .ok (.ireturn, 1) := by decide +kernel

/-! the law: decode rows (written by wip/whole/gen_law1.py) -/
theorem zd_L_0 : decode code 0 = .ok (.new 7, 3) := by decide +kernel
theorem zd_L_3 : decode code 3 = .ok (.dup, 1) := by decide +kernel
theorem zd_L_4 : decode code 4 = .ok (.invokespecial 9, 3) := by decide +kernel
theorem zd_L_7 : decode code 7 = .ok (.astore_n 1, 1) := by decide +kernel
theorem zd_L_8 : decode code 8 = .ok (.new 10, 3) := by decide +kernel
theorem zd_L_11 : decode code 11 = .ok (.dup, 1) := by decide +kernel
theorem zd_L_12 : decode code 12 = .ok (.invokespecial 12, 3) := by decide +kernel
theorem zd_L_15 : decode code 15 = .ok (.astore_n 2, 1) := by decide +kernel
theorem zd_L_16 : decode code 16 = .ok (.iconst 0, 1) := by decide +kernel
theorem zd_L_17 : decode code 17 = .ok (.istore_n 3, 1) := by decide +kernel
theorem zd_L_18 : decode code 18 = .ok (.iload_n 3, 1) := by decide +kernel
theorem zd_L_19 : decode code 19 = .ok (.aload_n 0, 1) := by decide +kernel
theorem zd_L_20 : decode code 20 = .ok (.arraylength, 1) := by decide +kernel
theorem zd_L_21 : decode code 21 = .ok (.iconst 4, 1) := by decide +kernel
theorem zd_L_22 : decode code 22 = .ok (.isub, 1) := by decide +kernel
theorem zd_L_23 : decode code 23 = .ok (.if_icmp .gt 1006, 3) := by decide +kernel
theorem zd_L_26 : decode code 26 = .ok (.aload_n 0, 1) := by decide +kernel
theorem zd_L_27 : decode code 27 = .ok (.iload_n 3, 1) := by decide +kernel
theorem zd_L_28 : decode code 28 = .ok (.iaload, 1) := by decide +kernel
theorem zd_L_29 : decode code 29 = .ok (.bipush 31, 2) := by decide +kernel
theorem zd_L_31 : decode code 31 = .ok (.iand, 1) := by decide +kernel
theorem zd_L_32 : decode code 32 = .ok (.tableswitch 991 0 31 #[144, 167, 180, 193, 206, 229, 262, 295, 318, 351, 384, 417, 440, 483, 526, 549, 572, 595, 628, 651, 674, 697, 740, 773, 816, 849, 872, 885, 898, 911, 954, 977], 144) := by decide +kernel
theorem zd_L_176 : decode code 176 = .ok (.aload_n 1, 1) := by decide +kernel
theorem zd_L_177 : decode code 177 = .ok (.aload_n 0, 1) := by decide +kernel
theorem zd_L_178 : decode code 178 = .ok (.iload_n 3, 1) := by decide +kernel
theorem zd_L_179 : decode code 179 = .ok (.iconst 1, 1) := by decide +kernel
theorem zd_L_180 : decode code 180 = .ok (.iadd, 1) := by decide +kernel
theorem zd_L_181 : decode code 181 = .ok (.iaload, 1) := by decide +kernel
theorem zd_L_182 : decode code 182 = .ok (.invokevirtual 13, 3) := by decide +kernel
theorem zd_L_185 : decode code 185 = .ok (.aload_n 2, 1) := by decide +kernel
theorem zd_L_186 : decode code 186 = .ok (.aload_n 0, 1) := by decide +kernel
theorem zd_L_187 : decode code 187 = .ok (.iload_n 3, 1) := by decide +kernel
theorem zd_L_188 : decode code 188 = .ok (.iconst 1, 1) := by decide +kernel
theorem zd_L_189 : decode code 189 = .ok (.iadd, 1) := by decide +kernel
theorem zd_L_190 : decode code 190 = .ok (.iaload, 1) := by decide +kernel
theorem zd_L_191 : decode code 191 = .ok (.invokevirtual 17, 3) := by decide +kernel
theorem zd_L_194 : decode code 194 = .ok (.if_icmp .eq 829, 3) := by decide +kernel
theorem zd_L_197 : decode code 197 = .ok (.iconst 0, 1) := by decide +kernel
theorem zd_L_198 : decode code 198 = .ok (.ireturn, 1) := by decide +kernel
theorem zd_L_199 : decode code 199 = .ok (.aload_n 1, 1) := by decide +kernel
theorem zd_L_200 : decode code 200 = .ok (.invokevirtual 18, 3) := by decide +kernel
theorem zd_L_203 : decode code 203 = .ok (.aload_n 2, 1) := by decide +kernel
theorem zd_L_204 : decode code 204 = .ok (.invokevirtual 22, 3) := by decide +kernel
theorem zd_L_207 : decode code 207 = .ok (.if_icmp .eq 816, 3) := by decide +kernel
theorem zd_L_210 : decode code 210 = .ok (.iconst 0, 1) := by decide +kernel
theorem zd_L_211 : decode code 211 = .ok (.ireturn, 1) := by decide +kernel
theorem zd_L_212 : decode code 212 = .ok (.aload_n 1, 1) := by decide +kernel
theorem zd_L_213 : decode code 213 = .ok (.invokevirtual 23, 3) := by decide +kernel
theorem zd_L_216 : decode code 216 = .ok (.aload_n 2, 1) := by decide +kernel
theorem zd_L_217 : decode code 217 = .ok (.invokevirtual 26, 3) := by decide +kernel
theorem zd_L_220 : decode code 220 = .ok (.if_icmp .eq 803, 3) := by decide +kernel
theorem zd_L_223 : decode code 223 = .ok (.iconst 0, 1) := by decide +kernel
theorem zd_L_224 : decode code 224 = .ok (.ireturn, 1) := by decide +kernel
theorem zd_L_225 : decode code 225 = .ok (.aload_n 1, 1) := by decide +kernel
theorem zd_L_226 : decode code 226 = .ok (.invokevirtual 27, 3) := by decide +kernel
theorem zd_L_229 : decode code 229 = .ok (.aload_n 2, 1) := by decide +kernel
theorem zd_L_230 : decode code 230 = .ok (.invokevirtual 30, 3) := by decide +kernel
theorem zd_L_233 : decode code 233 = .ok (.if_icmp .eq 790, 3) := by decide +kernel
theorem zd_L_236 : decode code 236 = .ok (.iconst 0, 1) := by decide +kernel
theorem zd_L_237 : decode code 237 = .ok (.ireturn, 1) := by decide +kernel
theorem zd_L_238 : decode code 238 = .ok (.aload_n 1, 1) := by decide +kernel
theorem zd_L_239 : decode code 239 = .ok (.aload_n 0, 1) := by decide +kernel
theorem zd_L_240 : decode code 240 = .ok (.iload_n 3, 1) := by decide +kernel
theorem zd_L_241 : decode code 241 = .ok (.iconst 1, 1) := by decide +kernel
theorem zd_L_242 : decode code 242 = .ok (.iadd, 1) := by decide +kernel
theorem zd_L_243 : decode code 243 = .ok (.iaload, 1) := by decide +kernel
theorem zd_L_244 : decode code 244 = .ok (.invokevirtual 31, 3) := by decide +kernel
theorem zd_L_247 : decode code 247 = .ok (.aload_n 2, 1) := by decide +kernel
theorem zd_L_248 : decode code 248 = .ok (.aload_n 0, 1) := by decide +kernel
theorem zd_L_249 : decode code 249 = .ok (.iload_n 3, 1) := by decide +kernel
theorem zd_L_250 : decode code 250 = .ok (.iconst 1, 1) := by decide +kernel
theorem zd_L_251 : decode code 251 = .ok (.iadd, 1) := by decide +kernel
theorem zd_L_252 : decode code 252 = .ok (.iaload, 1) := by decide +kernel
theorem zd_L_253 : decode code 253 = .ok (.invokevirtual 34, 3) := by decide +kernel
theorem zd_L_256 : decode code 256 = .ok (.if_icmp .eq 767, 3) := by decide +kernel
theorem zd_L_259 : decode code 259 = .ok (.iconst 0, 1) := by decide +kernel
theorem zd_L_260 : decode code 260 = .ok (.ireturn, 1) := by decide +kernel
theorem zd_L_261 : decode code 261 = .ok (.aload_n 1, 1) := by decide +kernel
theorem zd_L_262 : decode code 262 = .ok (.aload_n 0, 1) := by decide +kernel
theorem zd_L_263 : decode code 263 = .ok (.iload_n 3, 1) := by decide +kernel
theorem zd_L_264 : decode code 264 = .ok (.iconst 1, 1) := by decide +kernel
theorem zd_L_265 : decode code 265 = .ok (.iadd, 1) := by decide +kernel
theorem zd_L_266 : decode code 266 = .ok (.iaload, 1) := by decide +kernel
theorem zd_L_267 : decode code 267 = .ok (.aload_n 0, 1) := by decide +kernel
theorem zd_L_268 : decode code 268 = .ok (.iload_n 3, 1) := by decide +kernel
theorem zd_L_269 : decode code 269 = .ok (.iconst 2, 1) := by decide +kernel
theorem zd_L_270 : decode code 270 = .ok (.iadd, 1) := by decide +kernel
theorem zd_L_271 : decode code 271 = .ok (.iaload, 1) := by decide +kernel
theorem zd_L_272 : decode code 272 = .ok (.invokevirtual 35, 3) := by decide +kernel
theorem zd_L_275 : decode code 275 = .ok (.aload_n 2, 1) := by decide +kernel
theorem zd_L_276 : decode code 276 = .ok (.aload_n 0, 1) := by decide +kernel
theorem zd_L_277 : decode code 277 = .ok (.iload_n 3, 1) := by decide +kernel
theorem zd_L_278 : decode code 278 = .ok (.iconst 1, 1) := by decide +kernel
theorem zd_L_279 : decode code 279 = .ok (.iadd, 1) := by decide +kernel
theorem zd_L_280 : decode code 280 = .ok (.iaload, 1) := by decide +kernel
theorem zd_L_281 : decode code 281 = .ok (.aload_n 0, 1) := by decide +kernel
theorem zd_L_282 : decode code 282 = .ok (.iload_n 3, 1) := by decide +kernel
theorem zd_L_283 : decode code 283 = .ok (.iconst 2, 1) := by decide +kernel
theorem zd_L_284 : decode code 284 = .ok (.iadd, 1) := by decide +kernel
theorem zd_L_285 : decode code 285 = .ok (.iaload, 1) := by decide +kernel
theorem zd_L_286 : decode code 286 = .ok (.invokevirtual 39, 3) := by decide +kernel
theorem zd_L_289 : decode code 289 = .ok (.if_icmp .eq 734, 3) := by decide +kernel
theorem zd_L_292 : decode code 292 = .ok (.iconst 0, 1) := by decide +kernel
theorem zd_L_293 : decode code 293 = .ok (.ireturn, 1) := by decide +kernel
theorem zd_L_294 : decode code 294 = .ok (.aload_n 1, 1) := by decide +kernel
theorem zd_L_295 : decode code 295 = .ok (.aload_n 0, 1) := by decide +kernel
theorem zd_L_296 : decode code 296 = .ok (.iload_n 3, 1) := by decide +kernel
theorem zd_L_297 : decode code 297 = .ok (.iconst 1, 1) := by decide +kernel
theorem zd_L_298 : decode code 298 = .ok (.iadd, 1) := by decide +kernel
theorem zd_L_299 : decode code 299 = .ok (.iaload, 1) := by decide +kernel
theorem zd_L_300 : decode code 300 = .ok (.aload_n 0, 1) := by decide +kernel
theorem zd_L_301 : decode code 301 = .ok (.iload_n 3, 1) := by decide +kernel
theorem zd_L_302 : decode code 302 = .ok (.iconst 2, 1) := by decide +kernel
theorem zd_L_303 : decode code 303 = .ok (.iadd, 1) := by decide +kernel
theorem zd_L_304 : decode code 304 = .ok (.iaload, 1) := by decide +kernel
theorem zd_L_305 : decode code 305 = .ok (.invokevirtual 40, 3) := by decide +kernel
theorem zd_L_308 : decode code 308 = .ok (.aload_n 2, 1) := by decide +kernel
theorem zd_L_309 : decode code 309 = .ok (.aload_n 0, 1) := by decide +kernel
theorem zd_L_310 : decode code 310 = .ok (.iload_n 3, 1) := by decide +kernel
theorem zd_L_311 : decode code 311 = .ok (.iconst 1, 1) := by decide +kernel
theorem zd_L_312 : decode code 312 = .ok (.iadd, 1) := by decide +kernel
theorem zd_L_313 : decode code 313 = .ok (.iaload, 1) := by decide +kernel
theorem zd_L_314 : decode code 314 = .ok (.aload_n 0, 1) := by decide +kernel
theorem zd_L_315 : decode code 315 = .ok (.iload_n 3, 1) := by decide +kernel
theorem zd_L_316 : decode code 316 = .ok (.iconst 2, 1) := by decide +kernel
theorem zd_L_317 : decode code 317 = .ok (.iadd, 1) := by decide +kernel
theorem zd_L_318 : decode code 318 = .ok (.iaload, 1) := by decide +kernel
theorem zd_L_319 : decode code 319 = .ok (.invokevirtual 43, 3) := by decide +kernel
theorem zd_L_322 : decode code 322 = .ok (.if_icmp .eq 701, 3) := by decide +kernel
theorem zd_L_325 : decode code 325 = .ok (.iconst 0, 1) := by decide +kernel
theorem zd_L_326 : decode code 326 = .ok (.ireturn, 1) := by decide +kernel
theorem zd_L_327 : decode code 327 = .ok (.aload_n 1, 1) := by decide +kernel
theorem zd_L_328 : decode code 328 = .ok (.aload_n 0, 1) := by decide +kernel
theorem zd_L_329 : decode code 329 = .ok (.iload_n 3, 1) := by decide +kernel
theorem zd_L_330 : decode code 330 = .ok (.iconst 1, 1) := by decide +kernel
theorem zd_L_331 : decode code 331 = .ok (.iadd, 1) := by decide +kernel
theorem zd_L_332 : decode code 332 = .ok (.iaload, 1) := by decide +kernel
theorem zd_L_333 : decode code 333 = .ok (.invokevirtual 44, 3) := by decide +kernel
theorem zd_L_336 : decode code 336 = .ok (.aload_n 2, 1) := by decide +kernel
theorem zd_L_337 : decode code 337 = .ok (.aload_n 0, 1) := by decide +kernel
theorem zd_L_338 : decode code 338 = .ok (.iload_n 3, 1) := by decide +kernel
theorem zd_L_339 : decode code 339 = .ok (.iconst 1, 1) := by decide +kernel
theorem zd_L_340 : decode code 340 = .ok (.iadd, 1) := by decide +kernel
theorem zd_L_341 : decode code 341 = .ok (.iaload, 1) := by decide +kernel
theorem zd_L_342 : decode code 342 = .ok (.invokevirtual 47, 3) := by decide +kernel
theorem zd_L_345 : decode code 345 = .ok (.if_icmp .eq 678, 3) := by decide +kernel
theorem zd_L_348 : decode code 348 = .ok (.iconst 0, 1) := by decide +kernel
theorem zd_L_349 : decode code 349 = .ok (.ireturn, 1) := by decide +kernel
theorem zd_L_350 : decode code 350 = .ok (.aload_n 1, 1) := by decide +kernel
theorem zd_L_351 : decode code 351 = .ok (.aload_n 0, 1) := by decide +kernel
theorem zd_L_352 : decode code 352 = .ok (.iload_n 3, 1) := by decide +kernel
theorem zd_L_353 : decode code 353 = .ok (.iconst 1, 1) := by decide +kernel
theorem zd_L_354 : decode code 354 = .ok (.iadd, 1) := by decide +kernel
theorem zd_L_355 : decode code 355 = .ok (.iaload, 1) := by decide +kernel
theorem zd_L_356 : decode code 356 = .ok (.aload_n 0, 1) := by decide +kernel
theorem zd_L_357 : decode code 357 = .ok (.iload_n 3, 1) := by decide +kernel
theorem zd_L_358 : decode code 358 = .ok (.iconst 2, 1) := by decide +kernel
theorem zd_L_359 : decode code 359 = .ok (.iadd, 1) := by decide +kernel
theorem zd_L_360 : decode code 360 = .ok (.iaload, 1) := by decide +kernel
theorem zd_L_361 : decode code 361 = .ok (.invokevirtual 48, 3) := by decide +kernel
theorem zd_L_364 : decode code 364 = .ok (.aload_n 2, 1) := by decide +kernel
theorem zd_L_365 : decode code 365 = .ok (.aload_n 0, 1) := by decide +kernel
theorem zd_L_366 : decode code 366 = .ok (.iload_n 3, 1) := by decide +kernel
theorem zd_L_367 : decode code 367 = .ok (.iconst 1, 1) := by decide +kernel
theorem zd_L_368 : decode code 368 = .ok (.iadd, 1) := by decide +kernel
theorem zd_L_369 : decode code 369 = .ok (.iaload, 1) := by decide +kernel
theorem zd_L_370 : decode code 370 = .ok (.aload_n 0, 1) := by decide +kernel
theorem zd_L_371 : decode code 371 = .ok (.iload_n 3, 1) := by decide +kernel
theorem zd_L_372 : decode code 372 = .ok (.iconst 2, 1) := by decide +kernel
theorem zd_L_373 : decode code 373 = .ok (.iadd, 1) := by decide +kernel
theorem zd_L_374 : decode code 374 = .ok (.iaload, 1) := by decide +kernel

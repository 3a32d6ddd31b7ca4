theorem dl_0 : decode code 0 = .ok (.new 7, 3) := by decide +kernel
theorem dl_3 : decode code 3 = .ok (.dup, 1) := by decide +kernel
theorem dl_4 : decode code 4 = .ok (.invokespecial 9, 3) := by decide +kernel
theorem dl_7 : decode code 7 = .ok (.astore_n 1, 1) := by decide +kernel
theorem dl_8 : decode code 8 = .ok (.new 10, 3) := by decide +kernel
theorem dl_11 : decode code 11 = .ok (.dup, 1) := by decide +kernel
theorem dl_12 : decode code 12 = .ok (.invokespecial 12, 3) := by decide +kernel
theorem dl_15 : decode code 15 = .ok (.astore_n 2, 1) := by decide +kernel
theorem dl_16 : decode code 16 = .ok (.iconst 0, 1) := by decide +kernel
theorem dl_17 : decode code 17 = .ok (.istore_n 3, 1) := by decide +kernel
theorem dl_18 : decode code 18 = .ok (.iload_n 3, 1) := by decide +kernel
theorem dl_19 : decode code 19 = .ok (.aload_n 0, 1) := by decide +kernel
theorem dl_20 : decode code 20 = .ok (.arraylength, 1) := by decide +kernel
theorem dl_21 : decode code 21 = .ok (.bipush 7, 2) := by decide +kernel
theorem dl_23 : decode code 23 = .ok (.isub, 1) := by decide +kernel
theorem dl_24 : decode code 24 = .ok (.if_icmp .gt 1304, 3) := by decide +kernel
theorem dl_27 : decode code 27 = .ok (.aload_n 0, 1) := by decide +kernel
theorem dl_28 : decode code 28 = .ok (.iload_n 3, 1) := by decide +kernel
theorem dl_29 : decode code 29 = .ok (.iaload, 1) := by decide +kernel
theorem dl_30 : decode code 30 = .ok (.bipush 63, 2) := by decide +kernel
theorem dl_32 : decode code 32 = .ok (.iand, 1) := by decide +kernel
theorem dl_33 : decode code 33 = .ok (.tableswitch 1289 0 35 #[159, 202, 235, 258, 281, 294, 317, 340, 363, 386, 409, 422, 455, 478, 501, 514, 537, 560, 603, 616, 639, 672, 705, 738, 761, 784, 817, 860, 923, 936, 949, 1024, 1077, 1120, 1143, 1226], 159) := by decide +kernel
theorem dl_192 : decode code 192 = .ok (.aload_n 1, 1) := by decide +kernel
theorem dl_193 : decode code 193 = .ok (.aload_n 0, 1) := by decide +kernel
theorem dl_194 : decode code 194 = .ok (.iload_n 3, 1) := by decide +kernel
theorem dl_195 : decode code 195 = .ok (.iconst 1, 1) := by decide +kernel
theorem dl_196 : decode code 196 = .ok (.iadd, 1) := by decide +kernel
theorem dl_197 : decode code 197 = .ok (.iaload, 1) := by decide +kernel
theorem dl_198 : decode code 198 = .ok (.aload_n 0, 1) := by decide +kernel
theorem dl_199 : decode code 199 = .ok (.iload_n 3, 1) := by decide +kernel
theorem dl_200 : decode code 200 = .ok (.iconst 2, 1) := by decide +kernel
theorem dl_201 : decode code 201 = .ok (.iadd, 1) := by decide +kernel
theorem dl_202 : decode code 202 = .ok (.iaload, 1) := by decide +kernel
theorem dl_203 : decode code 203 = .ok (.aload_n 0, 1) := by decide +kernel
theorem dl_204 : decode code 204 = .ok (.iload_n 3, 1) := by decide +kernel
theorem dl_205 : decode code 205 = .ok (.iconst 3, 1) := by decide +kernel
theorem dl_206 : decode code 206 = .ok (.iadd, 1) := by decide +kernel
theorem dl_207 : decode code 207 = .ok (.iaload, 1) := by decide +kernel
theorem dl_208 : decode code 208 = .ok (.invokevirtual 13, 3) := by decide +kernel
theorem dl_211 : decode code 211 = .ok (.pop, 1) := by decide +kernel
theorem dl_212 : decode code 212 = .ok (.aload_n 2, 1) := by decide +kernel
theorem dl_213 : decode code 213 = .ok (.aload_n 0, 1) := by decide +kernel
theorem dl_214 : decode code 214 = .ok (.iload_n 3, 1) := by decide +kernel
theorem dl_215 : decode code 215 = .ok (.iconst 1, 1) := by decide +kernel
theorem dl_216 : decode code 216 = .ok (.iadd, 1) := by decide +kernel
theorem dl_217 : decode code 217 = .ok (.iaload, 1) := by decide +kernel
theorem dl_218 : decode code 218 = .ok (.aload_n 0, 1) := by decide +kernel
theorem dl_219 : decode code 219 = .ok (.iload_n 3, 1) := by decide +kernel
theorem dl_220 : decode code 220 = .ok (.iconst 2, 1) := by decide +kernel
theorem dl_221 : decode code 221 = .ok (.iadd, 1) := by decide +kernel
theorem dl_222 : decode code 222 = .ok (.iaload, 1) := by decide +kernel
theorem dl_223 : decode code 223 = .ok (.aload_n 0, 1) := by decide +kernel
theorem dl_224 : decode code 224 = .ok (.iload_n 3, 1) := by decide +kernel
theorem dl_225 : decode code 225 = .ok (.iconst 3, 1) := by decide +kernel
theorem dl_226 : decode code 226 = .ok (.iadd, 1) := by decide +kernel
theorem dl_227 : decode code 227 = .ok (.iaload, 1) := by decide +kernel
theorem dl_228 : decode code 228 = .ok (.invokevirtual 17, 3) := by decide +kernel
theorem dl_231 : decode code 231 = .ok (.pop, 1) := by decide +kernel
theorem dl_232 : decode code 232 = .ok (.goto 1090, 3) := by decide +kernel
theorem dl_235 : decode code 235 = .ok (.aload_n 1, 1) := by decide +kernel
theorem dl_236 : decode code 236 = .ok (.aload_n 0, 1) := by decide +kernel
theorem dl_237 : decode code 237 = .ok (.iload_n 3, 1) := by decide +kernel
theorem dl_238 : decode code 238 = .ok (.iconst 1, 1) := by decide +kernel
theorem dl_239 : decode code 239 = .ok (.iadd, 1) := by decide +kernel
theorem dl_240 : decode code 240 = .ok (.iaload, 1) := by decide +kernel
theorem dl_241 : decode code 241 = .ok (.aload_n 0, 1) := by decide +kernel
theorem dl_242 : decode code 242 = .ok (.iload_n 3, 1) := by decide +kernel
theorem dl_243 : decode code 243 = .ok (.iconst 2, 1) := by decide +kernel
theorem dl_244 : decode code 244 = .ok (.iadd, 1) := by decide +kernel
theorem dl_245 : decode code 245 = .ok (.iaload, 1) := by decide +kernel
theorem dl_246 : decode code 246 = .ok (.invokevirtual 18, 3) := by decide +kernel
theorem dl_249 : decode code 249 = .ok (.pop, 1) := by decide +kernel
theorem dl_250 : decode code 250 = .ok (.aload_n 2, 1) := by decide +kernel
theorem dl_251 : decode code 251 = .ok (.aload_n 0, 1) := by decide +kernel
theorem dl_252 : decode code 252 = .ok (.iload_n 3, 1) := by decide +kernel
theorem dl_253 : decode code 253 = .ok (.iconst 1, 1) := by decide +kernel
theorem dl_254 : decode code 254 = .ok (.iadd, 1) := by decide +kernel
theorem dl_255 : decode code 255 = .ok (.iaload, 1) := by decide +kernel
theorem dl_256 : decode code 256 = .ok (.aload_n 0, 1) := by decide +kernel
theorem dl_257 : decode code 257 = .ok (.iload_n 3, 1) := by decide +kernel
theorem dl_258 : decode code 258 = .ok (.iconst 2, 1) := by decide +kernel
theorem dl_259 : decode code 259 = .ok (.iadd, 1) := by decide +kernel
theorem dl_260 : decode code 260 = .ok (.iaload, 1) := by decide +kernel
theorem dl_261 : decode code 261 = .ok (.invokevirtual 22, 3) := by decide +kernel
theorem dl_264 : decode code 264 = .ok (.pop, 1) := by decide +kernel
theorem dl_265 : decode code 265 = .ok (.goto 1057, 3) := by decide +kernel
theorem dl_268 : decode code 268 = .ok (.aload_n 1, 1) := by decide +kernel
theorem dl_269 : decode code 269 = .ok (.aload_n 0, 1) := by decide +kernel
theorem dl_270 : decode code 270 = .ok (.iload_n 3, 1) := by decide +kernel
theorem dl_271 : decode code 271 = .ok (.iconst 1, 1) := by decide +kernel
theorem dl_272 : decode code 272 = .ok (.iadd, 1) := by decide +kernel
theorem dl_273 : decode code 273 = .ok (.iaload, 1) := by decide +kernel
theorem dl_274 : decode code 274 = .ok (.invokevirtual 23, 3) := by decide +kernel
theorem dl_277 : decode code 277 = .ok (.pop, 1) := by decide +kernel
theorem dl_278 : decode code 278 = .ok (.aload_n 2, 1) := by decide +kernel
theorem dl_279 : decode code 279 = .ok (.aload_n 0, 1) := by decide +kernel
theorem dl_280 : decode code 280 = .ok (.iload_n 3, 1) := by decide +kernel
theorem dl_281 : decode code 281 = .ok (.iconst 1, 1) := by decide +kernel
theorem dl_282 : decode code 282 = .ok (.iadd, 1) := by decide +kernel
theorem dl_283 : decode code 283 = .ok (.iaload, 1) := by decide +kernel
theorem dl_284 : decode code 284 = .ok (.invokevirtual 27, 3) := by decide +kernel
theorem dl_287 : decode code 287 = .ok (.pop, 1) := by decide +kernel
theorem dl_288 : decode code 288 = .ok (.goto 1034, 3) := by decide +kernel
theorem dl_291 : decode code 291 = .ok (.aload_n 1, 1) := by decide +kernel
theorem dl_292 : decode code 292 = .ok (.aload_n 0, 1) := by decide +kernel
theorem dl_293 : decode code 293 = .ok (.iload_n 3, 1) := by decide +kernel
theorem dl_294 : decode code 294 = .ok (.iconst 1, 1) := by decide +kernel
theorem dl_295 : decode code 295 = .ok (.iadd, 1) := by decide +kernel
theorem dl_296 : decode code 296 = .ok (.iaload, 1) := by decide +kernel
theorem dl_297 : decode code 297 = .ok (.invokevirtual 28, 3) := by decide +kernel
theorem dl_300 : decode code 300 = .ok (.pop, 1) := by decide +kernel
theorem dl_301 : decode code 301 = .ok (.aload_n 2, 1) := by decide +kernel
theorem dl_302 : decode code 302 = .ok (.aload_n 0, 1) := by decide +kernel
theorem dl_303 : decode code 303 = .ok (.iload_n 3, 1) := by decide +kernel
theorem dl_304 : decode code 304 = .ok (.iconst 1, 1) := by decide +kernel
theorem dl_305 : decode code 305 = .ok (.iadd, 1) := by decide +kernel
theorem dl_306 : decode code 306 = .ok (.iaload, 1) := by decide +kernel
theorem dl_307 : decode code 307 = .ok (.invokevirtual 31, 3) := by decide +kernel
theorem dl_310 : decode code 310 = .ok (.pop, 1) := by decide +kernel
theorem dl_311 : decode code 311 = .ok (.goto 1011, 3) := by decide +kernel
theorem dl_314 : decode code 314 = .ok (.aload_n 1, 1) := by decide +kernel
theorem dl_315 : decode code 315 = .ok (.invokevirtual 32, 3) := by decide +kernel
theorem dl_318 : decode code 318 = .ok (.pop, 1) := by decide +kernel
theorem dl_319 : decode code 319 = .ok (.aload_n 2, 1) := by decide +kernel
theorem dl_320 : decode code 320 = .ok (.invokevirtual 36, 3) := by decide +kernel
theorem dl_323 : decode code 323 = .ok (.pop, 1) := by decide +kernel
theorem dl_324 : decode code 324 = .ok (.goto 998, 3) := by decide +kernel
theorem dl_327 : decode code 327 = .ok (.aload_n 1, 1) := by decide +kernel
theorem dl_328 : decode code 328 = .ok (.aload_n 0, 1) := by decide +kernel
theorem dl_329 : decode code 329 = .ok (.iload_n 3, 1) := by decide +kernel
theorem dl_330 : decode code 330 = .ok (.iconst 1, 1) := by decide +kernel
theorem dl_331 : decode code 331 = .ok (.iadd, 1) := by decide +kernel
theorem dl_332 : decode code 332 = .ok (.iaload, 1) := by decide +kernel
theorem dl_333 : decode code 333 = .ok (.invokevirtual 37, 3) := by decide +kernel
theorem dl_336 : decode code 336 = .ok (.pop, 1) := by decide +kernel
theorem dl_337 : decode code 337 = .ok (.aload_n 2, 1) := by decide +kernel
theorem dl_338 : decode code 338 = .ok (.aload_n 0, 1) := by decide +kernel
theorem dl_339 : decode code 339 = .ok (.iload_n 3, 1) := by decide +kernel
theorem dl_340 : decode code 340 = .ok (.iconst 1, 1) := by decide +kernel
theorem dl_341 : decode code 341 = .ok (.iadd, 1) := by decide +kernel
theorem dl_342 : decode code 342 = .ok (.iaload, 1) := by decide +kernel
theorem dl_343 : decode code 343 = .ok (.invokevirtual 40, 3) := by decide +kernel
theorem dl_346 : decode code 346 = .ok (.pop, 1) := by decide +kernel
theorem dl_347 : decode code 347 = .ok (.goto 975, 3) := by decide +kernel
theorem dl_350 : decode code 350 = .ok (.aload_n 1, 1) := by decide +kernel
theorem dl_351 : decode code 351 = .ok (.aload_n 0, 1) := by decide +kernel
theorem dl_352 : decode code 352 = .ok (.iload_n 3, 1) := by decide +kernel
theorem dl_353 : decode code 353 = .ok (.iconst 1, 1) := by decide +kernel
theorem dl_354 : decode code 354 = .ok (.iadd, 1) := by decide +kernel
theorem dl_355 : decode code 355 = .ok (.iaload, 1) := by decide +kernel
theorem dl_356 : decode code 356 = .ok (.invokevirtual 41, 3) := by decide +kernel
theorem dl_359 : decode code 359 = .ok (.pop, 1) := by decide +kernel
theorem dl_360 : decode code 360 = .ok (.aload_n 2, 1) := by decide +kernel
theorem dl_361 : decode code 361 = .ok (.aload_n 0, 1) := by decide +kernel
theorem dl_362 : decode code 362 = .ok (.iload_n 3, 1) := by decide +kernel
theorem dl_363 : decode code 363 = .ok (.iconst 1, 1) := by decide +kernel
theorem dl_364 : decode code 364 = .ok (.iadd, 1) := by decide +kernel
theorem dl_365 : decode code 365 = .ok (.iaload, 1) := by decide +kernel
theorem dl_366 : decode code 366 = .ok (.invokevirtual 44, 3) := by decide +kernel
theorem dl_369 : decode code 369 = .ok (.pop, 1) := by decide +kernel

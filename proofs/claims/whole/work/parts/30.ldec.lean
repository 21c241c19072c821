theorem dL_0 : decode code 0 = .ok (.new 7, 3) := by decide +kernel
theorem dL_3 : decode code 3 = .ok (.dup, 1) := by decide +kernel
theorem dL_4 : decode code 4 = .ok (.invokespecial 9, 3) := by decide +kernel
theorem dL_7 : decode code 7 = .ok (.astore_n 1, 1) := by decide +kernel
theorem dL_8 : decode code 8 = .ok (.new 10, 3) := by decide +kernel
theorem dL_11 : decode code 11 = .ok (.dup, 1) := by decide +kernel
theorem dL_12 : decode code 12 = .ok (.invokespecial 12, 3) := by decide +kernel
theorem dL_15 : decode code 15 = .ok (.astore_n 2, 1) := by decide +kernel
theorem dL_16 : decode code 16 = .ok (.iconst 0, 1) := by decide +kernel
theorem dL_17 : decode code 17 = .ok (.istore_n 3, 1) := by decide +kernel
theorem dL_18 : decode code 18 = .ok (.iload_n 3, 1) := by decide +kernel
theorem dL_19 : decode code 19 = .ok (.aload_n 0, 1) := by decide +kernel
theorem dL_20 : decode code 20 = .ok (.arraylength, 1) := by decide +kernel
theorem dL_21 : decode code 21 = .ok (.bipush 7, 2) := by decide +kernel
theorem dL_23 : decode code 23 = .ok (.isub, 1) := by decide +kernel
theorem dL_24 : decode code 24 = .ok (.if_icmp .gt 972, 3) := by decide +kernel
theorem dL_27 : decode code 27 = .ok (.aload_n 0, 1) := by decide +kernel
theorem dL_28 : decode code 28 = .ok (.iload_n 3, 1) := by decide +kernel
theorem dL_29 : decode code 29 = .ok (.iaload, 1) := by decide +kernel
theorem dL_30 : decode code 30 = .ok (.bipush 31, 2) := by decide +kernel
theorem dL_32 : decode code 32 = .ok (.iand, 1) := by decide +kernel
theorem dL_33 : decode code 33 = .ok (.tableswitch 957 0 17 #[87, 120, 153, 176, 209, 282, 345, 434, 467, 582, 655, 708, 741, 774, 795, 808, 821, 854], 87) := by decide +kernel
theorem dL_120 : decode code 120 = .ok (.aload_n 1, 1) := by decide +kernel
theorem dL_121 : decode code 121 = .ok (.aload_n 0, 1) := by decide +kernel
theorem dL_122 : decode code 122 = .ok (.iload_n 3, 1) := by decide +kernel
theorem dL_123 : decode code 123 = .ok (.iconst 1, 1) := by decide +kernel
theorem dL_124 : decode code 124 = .ok (.iadd, 1) := by decide +kernel
theorem dL_125 : decode code 125 = .ok (.iaload, 1) := by decide +kernel
theorem dL_126 : decode code 126 = .ok (.aload_n 0, 1) := by decide +kernel
theorem dL_127 : decode code 127 = .ok (.iload_n 3, 1) := by decide +kernel
theorem dL_128 : decode code 128 = .ok (.iconst 2, 1) := by decide +kernel
theorem dL_129 : decode code 129 = .ok (.iadd, 1) := by decide +kernel
theorem dL_130 : decode code 130 = .ok (.iaload, 1) := by decide +kernel
theorem dL_131 : decode code 131 = .ok (.invokevirtual 13, 3) := by decide +kernel
theorem dL_134 : decode code 134 = .ok (.aload_n 2, 1) := by decide +kernel
theorem dL_135 : decode code 135 = .ok (.aload_n 0, 1) := by decide +kernel
theorem dL_136 : decode code 136 = .ok (.iload_n 3, 1) := by decide +kernel
theorem dL_137 : decode code 137 = .ok (.iconst 1, 1) := by decide +kernel
theorem dL_138 : decode code 138 = .ok (.iadd, 1) := by decide +kernel
theorem dL_139 : decode code 139 = .ok (.iaload, 1) := by decide +kernel
theorem dL_140 : decode code 140 = .ok (.aload_n 0, 1) := by decide +kernel
theorem dL_141 : decode code 141 = .ok (.iload_n 3, 1) := by decide +kernel
theorem dL_142 : decode code 142 = .ok (.iconst 2, 1) := by decide +kernel
theorem dL_143 : decode code 143 = .ok (.iadd, 1) := by decide +kernel
theorem dL_144 : decode code 144 = .ok (.iaload, 1) := by decide +kernel
theorem dL_145 : decode code 145 = .ok (.invokevirtual 17, 3) := by decide +kernel
theorem dL_148 : decode code 148 = .ok (.if_icmp .eq 842, 3) := by decide +kernel
theorem dL_151 : decode code 151 = .ok (.iconst 0, 1) := by decide +kernel
theorem dL_152 : decode code 152 = .ok (.ireturn, 1) := by decide +kernel
theorem dL_153 : decode code 153 = .ok (.aload_n 1, 1) := by decide +kernel
theorem dL_154 : decode code 154 = .ok (.aload_n 0, 1) := by decide +kernel
theorem dL_155 : decode code 155 = .ok (.iload_n 3, 1) := by decide +kernel
theorem dL_156 : decode code 156 = .ok (.iconst 1, 1) := by decide +kernel
theorem dL_157 : decode code 157 = .ok (.iadd, 1) := by decide +kernel
theorem dL_158 : decode code 158 = .ok (.iaload, 1) := by decide +kernel
theorem dL_159 : decode code 159 = .ok (.aload_n 0, 1) := by decide +kernel
theorem dL_160 : decode code 160 = .ok (.iload_n 3, 1) := by decide +kernel
theorem dL_161 : decode code 161 = .ok (.iconst 2, 1) := by decide +kernel
theorem dL_162 : decode code 162 = .ok (.iadd, 1) := by decide +kernel
theorem dL_163 : decode code 163 = .ok (.iaload, 1) := by decide +kernel
theorem dL_164 : decode code 164 = .ok (.invokevirtual 18, 3) := by decide +kernel
theorem dL_167 : decode code 167 = .ok (.aload_n 2, 1) := by decide +kernel
theorem dL_168 : decode code 168 = .ok (.aload_n 0, 1) := by decide +kernel
theorem dL_169 : decode code 169 = .ok (.iload_n 3, 1) := by decide +kernel
theorem dL_170 : decode code 170 = .ok (.iconst 1, 1) := by decide +kernel
theorem dL_171 : decode code 171 = .ok (.iadd, 1) := by decide +kernel
theorem dL_172 : decode code 172 = .ok (.iaload, 1) := by decide +kernel
theorem dL_173 : decode code 173 = .ok (.aload_n 0, 1) := by decide +kernel
theorem dL_174 : decode code 174 = .ok (.iload_n 3, 1) := by decide +kernel
theorem dL_175 : decode code 175 = .ok (.iconst 2, 1) := by decide +kernel
theorem dL_176 : decode code 176 = .ok (.iadd, 1) := by decide +kernel
theorem dL_177 : decode code 177 = .ok (.iaload, 1) := by decide +kernel
theorem dL_178 : decode code 178 = .ok (.invokevirtual 21, 3) := by decide +kernel
theorem dL_181 : decode code 181 = .ok (.if_icmp .eq 809, 3) := by decide +kernel
theorem dL_184 : decode code 184 = .ok (.iconst 0, 1) := by decide +kernel
theorem dL_185 : decode code 185 = .ok (.ireturn, 1) := by decide +kernel
theorem dL_186 : decode code 186 = .ok (.aload_n 1, 1) := by decide +kernel
theorem dL_187 : decode code 187 = .ok (.aload_n 0, 1) := by decide +kernel
theorem dL_188 : decode code 188 = .ok (.iload_n 3, 1) := by decide +kernel
theorem dL_189 : decode code 189 = .ok (.iconst 1, 1) := by decide +kernel
theorem dL_190 : decode code 190 = .ok (.iadd, 1) := by decide +kernel
theorem dL_191 : decode code 191 = .ok (.iaload, 1) := by decide +kernel
theorem dL_192 : decode code 192 = .ok (.invokevirtual 22, 3) := by decide +kernel
theorem dL_195 : decode code 195 = .ok (.aload_n 2, 1) := by decide +kernel
theorem dL_196 : decode code 196 = .ok (.aload_n 0, 1) := by decide +kernel
theorem dL_197 : decode code 197 = .ok (.iload_n 3, 1) := by decide +kernel
theorem dL_198 : decode code 198 = .ok (.iconst 1, 1) := by decide +kernel
theorem dL_199 : decode code 199 = .ok (.iadd, 1) := by decide +kernel
theorem dL_200 : decode code 200 = .ok (.iaload, 1) := by decide +kernel
theorem dL_201 : decode code 201 = .ok (.invokevirtual 26, 3) := by decide +kernel
theorem dL_204 : decode code 204 = .ok (.if_icmp .eq 786, 3) := by decide +kernel
theorem dL_207 : decode code 207 = .ok (.iconst 0, 1) := by decide +kernel
theorem dL_208 : decode code 208 = .ok (.ireturn, 1) := by decide +kernel
theorem dL_209 : decode code 209 = .ok (.aload_n 1, 1) := by decide +kernel
theorem dL_210 : decode code 210 = .ok (.aload_n 0, 1) := by decide +kernel
theorem dL_211 : decode code 211 = .ok (.iload_n 3, 1) := by decide +kernel
theorem dL_212 : decode code 212 = .ok (.iconst 1, 1) := by decide +kernel
theorem dL_213 : decode code 213 = .ok (.iadd, 1) := by decide +kernel
theorem dL_214 : decode code 214 = .ok (.iaload, 1) := by decide +kernel
theorem dL_215 : decode code 215 = .ok (.aload_n 0, 1) := by decide +kernel
theorem dL_216 : decode code 216 = .ok (.iload_n 3, 1) := by decide +kernel
theorem dL_217 : decode code 217 = .ok (.iconst 2, 1) := by decide +kernel
theorem dL_218 : decode code 218 = .ok (.iadd, 1) := by decide +kernel
theorem dL_219 : decode code 219 = .ok (.iaload, 1) := by decide +kernel
theorem dL_220 : decode code 220 = .ok (.invokevirtual 27, 3) := by decide +kernel
theorem dL_223 : decode code 223 = .ok (.aload_n 2, 1) := by decide +kernel
theorem dL_224 : decode code 224 = .ok (.aload_n 0, 1) := by decide +kernel
theorem dL_225 : decode code 225 = .ok (.iload_n 3, 1) := by decide +kernel
theorem dL_226 : decode code 226 = .ok (.iconst 1, 1) := by decide +kernel
theorem dL_227 : decode code 227 = .ok (.iadd, 1) := by decide +kernel
theorem dL_228 : decode code 228 = .ok (.iaload, 1) := by decide +kernel
theorem dL_229 : decode code 229 = .ok (.aload_n 0, 1) := by decide +kernel
theorem dL_230 : decode code 230 = .ok (.iload_n 3, 1) := by decide +kernel
theorem dL_231 : decode code 231 = .ok (.iconst 2, 1) := by decide +kernel
theorem dL_232 : decode code 232 = .ok (.iadd, 1) := by decide +kernel
theorem dL_233 : decode code 233 = .ok (.iaload, 1) := by decide +kernel
theorem dL_234 : decode code 234 = .ok (.invokevirtual 30, 3) := by decide +kernel
theorem dL_237 : decode code 237 = .ok (.if_icmp .eq 753, 3) := by decide +kernel
theorem dL_240 : decode code 240 = .ok (.iconst 0, 1) := by decide +kernel
theorem dL_241 : decode code 241 = .ok (.ireturn, 1) := by decide +kernel
theorem dL_242 : decode code 242 = .ok (.aload_n 1, 1) := by decide +kernel
theorem dL_243 : decode code 243 = .ok (.aload_n 0, 1) := by decide +kernel
theorem dL_244 : decode code 244 = .ok (.iload_n 3, 1) := by decide +kernel
theorem dL_245 : decode code 245 = .ok (.iconst 1, 1) := by decide +kernel
theorem dL_246 : decode code 246 = .ok (.iadd, 1) := by decide +kernel
theorem dL_247 : decode code 247 = .ok (.iaload, 1) := by decide +kernel
theorem dL_248 : decode code 248 = .ok (.aload_n 0, 1) := by decide +kernel
theorem dL_249 : decode code 249 = .ok (.iload_n 3, 1) := by decide +kernel
theorem dL_250 : decode code 250 = .ok (.iconst 2, 1) := by decide +kernel
theorem dL_251 : decode code 251 = .ok (.iadd, 1) := by decide +kernel
theorem dL_252 : decode code 252 = .ok (.iaload, 1) := by decide +kernel
theorem dL_253 : decode code 253 = .ok (.aload_n 0, 1) := by decide +kernel
theorem dL_254 : decode code 254 = .ok (.iload_n 3, 1) := by decide +kernel
theorem dL_255 : decode code 255 = .ok (.iconst 3, 1) := by decide +kernel
theorem dL_256 : decode code 256 = .ok (.iadd, 1) := by decide +kernel
theorem dL_257 : decode code 257 = .ok (.iaload, 1) := by decide +kernel
theorem dL_258 : decode code 258 = .ok (.i2l, 1) := by decide +kernel
theorem dL_259 : decode code 259 = .ok (.bipush 32, 2) := by decide +kernel
theorem dL_261 : decode code 261 = .ok (.lshl, 1) := by decide +kernel
theorem dL_262 : decode code 262 = .ok (.aload_n 0, 1) := by decide +kernel
theorem dL_263 : decode code 263 = .ok (.iload_n 3, 1) := by decide +kernel
theorem dL_264 : decode code 264 = .ok (.iconst 4, 1) := by decide +kernel
theorem dL_265 : decode code 265 = .ok (.iadd, 1) := by decide +kernel
theorem dL_266 : decode code 266 = .ok (.iaload, 1) := by decide +kernel
theorem dL_267 : decode code 267 = .ok (.i2l, 1) := by decide +kernel
theorem dL_268 : decode code 268 = .ok (.ldc2_w 31, 3) := by decide +kernel
theorem dL_271 : decode code 271 = .ok (.land, 1) := by decide +kernel
theorem dL_272 : decode code 272 = .ok (.lor, 1) := by decide +kernel
theorem dL_273 : decode code 273 = .ok (.invokevirtual 33, 3) := by decide +kernel
theorem dL_276 : decode code 276 = .ok (.aload_n 2, 1) := by decide +kernel
theorem dL_277 : decode code 277 = .ok (.aload_n 0, 1) := by decide +kernel
theorem dL_278 : decode code 278 = .ok (.iload_n 3, 1) := by decide +kernel
theorem dL_279 : decode code 279 = .ok (.iconst 1, 1) := by decide +kernel
theorem dL_280 : decode code 280 = .ok (.iadd, 1) := by decide +kernel
theorem dL_281 : decode code 281 = .ok (.iaload, 1) := by decide +kernel
theorem dL_282 : decode code 282 = .ok (.aload_n 0, 1) := by decide +kernel
theorem dL_283 : decode code 283 = .ok (.iload_n 3, 1) := by decide +kernel
theorem dL_284 : decode code 284 = .ok (.iconst 2, 1) := by decide +kernel
theorem dL_285 : decode code 285 = .ok (.iadd, 1) := by decide +kernel
theorem dL_286 : decode code 286 = .ok (.iaload, 1) := by decide +kernel
theorem dL_287 : decode code 287 = .ok (.aload_n 0, 1) := by decide +kernel
theorem dL_288 : decode code 288 = .ok (.iload_n 3, 1) := by decide +kernel
theorem dL_289 : decode code 289 = .ok (.iconst 3, 1) := by decide +kernel
theorem dL_290 : decode code 290 = .ok (.iadd, 1) := by decide +kernel
theorem dL_291 : decode code 291 = .ok (.iaload, 1) := by decide +kernel
theorem dL_292 : decode code 292 = .ok (.i2l, 1) := by decide +kernel
theorem dL_293 : decode code 293 = .ok (.bipush 32, 2) := by decide +kernel
theorem dL_295 : decode code 295 = .ok (.lshl, 1) := by decide +kernel
theorem dL_296 : decode code 296 = .ok (.aload_n 0, 1) := by decide +kernel
theorem dL_297 : decode code 297 = .ok (.iload_n 3, 1) := by decide +kernel
theorem dL_298 : decode code 298 = .ok (.iconst 4, 1) := by decide +kernel
theorem dL_299 : decode code 299 = .ok (.iadd, 1) := by decide +kernel
theorem dL_300 : decode code 300 = .ok (.iaload, 1) := by decide +kernel
theorem dL_301 : decode code 301 = .ok (.i2l, 1) := by decide +kernel
theorem dL_302 : decode code 302 = .ok (.ldc2_w 31, 3) := by decide +kernel
theorem dL_305 : decode code 305 = .ok (.land, 1) := by decide +kernel
theorem dL_306 : decode code 306 = .ok (.lor, 1) := by decide +kernel
theorem dL_307 : decode code 307 = .ok (.invokevirtual 37, 3) := by decide +kernel
theorem dL_310 : decode code 310 = .ok (.if_icmp .eq 680, 3) := by decide +kernel
theorem dL_313 : decode code 313 = .ok (.iconst 0, 1) := by decide +kernel
theorem dL_314 : decode code 314 = .ok (.ireturn, 1) := by decide +kernel
theorem dL_315 : decode code 315 = .ok (.aload_n 1, 1) := by decide +kernel
theorem dL_316 : decode code 316 = .ok (.aload_n 0, 1) := by decide +kernel
theorem dL_317 : decode code 317 = .ok (.iload_n 3, 1) := by decide +kernel
theorem dL_318 : decode code 318 = .ok (.iconst 1, 1) := by decide +kernel
theorem dL_319 : decode code 319 = .ok (.iadd, 1) := by decide +kernel
theorem dL_320 : decode code 320 = .ok (.iaload, 1) := by decide +kernel
theorem dL_321 : decode code 321 = .ok (.aload_n 0, 1) := by decide +kernel
theorem dL_322 : decode code 322 = .ok (.iload_n 3, 1) := by decide +kernel
theorem dL_323 : decode code 323 = .ok (.iconst 2, 1) := by decide +kernel
theorem dL_324 : decode code 324 = .ok (.iadd, 1) := by decide +kernel
theorem dL_325 : decode code 325 = .ok (.iaload, 1) := by decide +kernel
theorem dL_326 : decode code 326 = .ok (.i2l, 1) := by decide +kernel
theorem dL_327 : decode code 327 = .ok (.bipush 32, 2) := by decide +kernel
theorem dL_329 : decode code 329 = .ok (.lshl, 1) := by decide +kernel
theorem dL_330 : decode code 330 = .ok (.aload_n 0, 1) := by decide +kernel
theorem dL_331 : decode code 331 = .ok (.iload_n 3, 1) := by decide +kernel
theorem dL_332 : decode code 332 = .ok (.iconst 3, 1) := by decide +kernel
theorem dL_333 : decode code 333 = .ok (.iadd, 1) := by decide +kernel
theorem dL_334 : decode code 334 = .ok (.iaload, 1) := by decide +kernel
theorem dL_335 : decode code 335 = .ok (.i2l, 1) := by decide +kernel
theorem dL_336 : decode code 336 = .ok (.ldc2_w 31, 3) := by decide +kernel
theorem dL_339 : decode code 339 = .ok (.land, 1) := by decide +kernel
theorem dL_340 : decode code 340 = .ok (.lor, 1) := by decide +kernel
theorem dL_341 : decode code 341 = .ok (.invokevirtual 38, 3) := by decide +kernel
theorem dL_344 : decode code 344 = .ok (.aload_n 2, 1) := by decide +kernel
theorem dL_345 : decode code 345 = .ok (.aload_n 0, 1) := by decide +kernel
theorem dL_346 : decode code 346 = .ok (.iload_n 3, 1) := by decide +kernel
theorem dL_347 : decode code 347 = .ok (.iconst 1, 1) := by decide +kernel
theorem dL_348 : decode code 348 = .ok (.iadd, 1) := by decide +kernel
theorem dL_349 : decode code 349 = .ok (.iaload, 1) := by decide +kernel
theorem dL_350 : decode code 350 = .ok (.aload_n 0, 1) := by decide +kernel
theorem dL_351 : decode code 351 = .ok (.iload_n 3, 1) := by decide +kernel
theorem dL_352 : decode code 352 = .ok (.iconst 2, 1) := by decide +kernel
theorem dL_353 : decode code 353 = .ok (.iadd, 1) := by decide +kernel
theorem dL_354 : decode code 354 = .ok (.iaload, 1) := by decide +kernel
theorem dL_355 : decode code 355 = .ok (.i2l, 1) := by decide +kernel
theorem dL_356 : decode code 356 = .ok (.bipush 32, 2) := by decide +kernel
theorem dL_358 : decode code 358 = .ok (.lshl, 1) := by decide +kernel
theorem dL_359 : decode code 359 = .ok (.aload_n 0, 1) := by decide +kernel
theorem dL_360 : decode code 360 = .ok (.iload_n 3, 1) := by decide +kernel
theorem dL_361 : decode code 361 = .ok (.iconst 3, 1) := by decide +kernel
theorem dL_362 : decode code 362 = .ok (.iadd, 1) := by decide +kernel
theorem dL_363 : decode code 363 = .ok (.iaload, 1) := by decide +kernel
theorem dL_364 : decode code 364 = .ok (.i2l, 1) := by decide +kernel
theorem dL_365 : decode code 365 = .ok (.ldc2_w 31, 3) := by decide +kernel
theorem dL_368 : decode code 368 = .ok (.land, 1) := by decide +kernel
theorem dL_369 : decode code 369 = .ok (.lor, 1) := by decide +kernel
theorem dL_370 : decode code 370 = .ok (.invokevirtual 42, 3) := by decide +kernel
theorem dL_373 : decode code 373 = .ok (.if_icmp .eq 617, 3) := by decide +kernel
theorem dL_376 : decode code 376 = .ok (.iconst 0, 1) := by decide +kernel
theorem dL_377 : decode code 377 = .ok (.ireturn, 1) := by decide +kernel
theorem dL_378 : decode code 378 = .ok (.aload_n 1, 1) := by decide +kernel
theorem dL_379 : decode code 379 = .ok (.aload_n 0, 1) := by decide +kernel
theorem dL_380 : decode code 380 = .ok (.iload_n 3, 1) := by decide +kernel
theorem dL_381 : decode code 381 = .ok (.iconst 1, 1) := by decide +kernel
theorem dL_382 : decode code 382 = .ok (.iadd, 1) := by decide +kernel
theorem dL_383 : decode code 383 = .ok (.iaload, 1) := by decide +kernel
theorem dL_384 : decode code 384 = .ok (.aload_n 0, 1) := by decide +kernel
theorem dL_385 : decode code 385 = .ok (.iload_n 3, 1) := by decide +kernel
theorem dL_386 : decode code 386 = .ok (.iconst 2, 1) := by decide +kernel
theorem dL_387 : decode code 387 = .ok (.iadd, 1) := by decide +kernel
theorem dL_388 : decode code 388 = .ok (.iaload, 1) := by decide +kernel
theorem dL_389 : decode code 389 = .ok (.ifCond .eq 7, 3) := by decide +kernel
theorem dL_392 : decode code 392 = .ok (.iconst 1, 1) := by decide +kernel
theorem dL_393 : decode code 393 = .ok (.goto 4, 3) := by decide +kernel
theorem dL_396 : decode code 396 = .ok (.iconst 0, 1) := by decide +kernel
theorem dL_397 : decode code 397 = .ok (.aload_n 0, 1) := by decide +kernel
theorem dL_398 : decode code 398 = .ok (.iload_n 3, 1) := by decide +kernel
theorem dL_399 : decode code 399 = .ok (.iconst 3, 1) := by decide +kernel
theorem dL_400 : decode code 400 = .ok (.iadd, 1) := by decide +kernel
theorem dL_401 : decode code 401 = .ok (.iaload, 1) := by decide +kernel
theorem dL_402 : decode code 402 = .ok (.i2l, 1) := by decide +kernel
theorem dL_403 : decode code 403 = .ok (.bipush 32, 2) := by decide +kernel
theorem dL_405 : decode code 405 = .ok (.lshl, 1) := by decide +kernel
theorem dL_406 : decode code 406 = .ok (.aload_n 0, 1) := by decide +kernel
theorem dL_407 : decode code 407 = .ok (.iload_n 3, 1) := by decide +kernel
theorem dL_408 : decode code 408 = .ok (.iconst 4, 1) := by decide +kernel
theorem dL_409 : decode code 409 = .ok (.iadd, 1) := by decide +kernel
theorem dL_410 : decode code 410 = .ok (.iaload, 1) := by decide +kernel
theorem dL_411 : decode code 411 = .ok (.i2l, 1) := by decide +kernel
theorem dL_412 : decode code 412 = .ok (.ldc2_w 31, 3) := by decide +kernel
theorem dL_415 : decode code 415 = .ok (.land, 1) := by decide +kernel
theorem dL_416 : decode code 416 = .ok (.lor, 1) := by decide +kernel
theorem dL_417 : decode code 417 = .ok (.invokevirtual 43, 3) := by decide +kernel
theorem dL_420 : decode code 420 = .ok (.aload_n 2, 1) := by decide +kernel
theorem dL_421 : decode code 421 = .ok (.aload_n 0, 1) := by decide +kernel
theorem dL_422 : decode code 422 = .ok (.iload_n 3, 1) := by decide +kernel
theorem dL_423 : decode code 423 = .ok (.iconst 1, 1) := by decide +kernel
theorem dL_424 : decode code 424 = .ok (.iadd, 1) := by decide +kernel
theorem dL_425 : decode code 425 = .ok (.iaload, 1) := by decide +kernel
theorem dL_426 : decode code 426 = .ok (.aload_n 0, 1) := by decide +kernel
theorem dL_427 : decode code 427 = .ok (.iload_n 3, 1) := by decide +kernel
theorem dL_428 : decode code 428 = .ok (.iconst 2, 1) := by decide +kernel
theorem dL_429 : decode code 429 = .ok (.iadd, 1) := by decide +kernel
theorem dL_430 : decode code 430 = .ok (.iaload, 1) := by decide +kernel
theorem dL_431 : decode code 431 = .ok (.ifCond .eq 7, 3) := by decide +kernel
theorem dL_434 : decode code 434 = .ok (.iconst 1, 1) := by decide +kernel
theorem dL_435 : decode code 435 = .ok (.goto 4, 3) := by decide +kernel
theorem dL_438 : decode code 438 = .ok (.iconst 0, 1) := by decide +kernel
theorem dL_439 : decode code 439 = .ok (.aload_n 0, 1) := by decide +kernel
theorem dL_440 : decode code 440 = .ok (.iload_n 3, 1) := by decide +kernel
theorem dL_441 : decode code 441 = .ok (.iconst 3, 1) := by decide +kernel
theorem dL_442 : decode code 442 = .ok (.iadd, 1) := by decide +kernel
theorem dL_443 : decode code 443 = .ok (.iaload, 1) := by decide +kernel
theorem dL_444 : decode code 444 = .ok (.i2l, 1) := by decide +kernel
theorem dL_445 : decode code 445 = .ok (.bipush 32, 2) := by decide +kernel
theorem dL_447 : decode code 447 = .ok (.lshl, 1) := by decide +kernel
theorem dL_448 : decode code 448 = .ok (.aload_n 0, 1) := by decide +kernel
theorem dL_449 : decode code 449 = .ok (.iload_n 3, 1) := by decide +kernel
theorem dL_450 : decode code 450 = .ok (.iconst 4, 1) := by decide +kernel
theorem dL_451 : decode code 451 = .ok (.iadd, 1) := by decide +kernel
theorem dL_452 : decode code 452 = .ok (.iaload, 1) := by decide +kernel
theorem dL_453 : decode code 453 = .ok (.i2l, 1) := by decide +kernel
theorem dL_454 : decode code 454 = .ok (.ldc2_w 31, 3) := by decide +kernel
theorem dL_457 : decode code 457 = .ok (.land, 1) := by decide +kernel
theorem dL_458 : decode code 458 = .ok (.lor, 1) := by decide +kernel
theorem dL_459 : decode code 459 = .ok (.invokevirtual 47, 3) := by decide +kernel
theorem dL_462 : decode code 462 = .ok (.if_icmp .eq 528, 3) := by decide +kernel
theorem dL_465 : decode code 465 = .ok (.iconst 0, 1) := by decide +kernel
theorem dL_466 : decode code 466 = .ok (.ireturn, 1) := by decide +kernel
theorem dL_467 : decode code 467 = .ok (.aload_n 1, 1) := by decide +kernel
theorem dL_468 : decode code 468 = .ok (.aload_n 0, 1) := by decide +kernel
theorem dL_469 : decode code 469 = .ok (.iload_n 3, 1) := by decide +kernel
theorem dL_470 : decode code 470 = .ok (.iconst 1, 1) := by decide +kernel
theorem dL_471 : decode code 471 = .ok (.iadd, 1) := by decide +kernel
theorem dL_472 : decode code 472 = .ok (.iaload, 1) := by decide +kernel
theorem dL_473 : decode code 473 = .ok (.aload_n 0, 1) := by decide +kernel
theorem dL_474 : decode code 474 = .ok (.iload_n 3, 1) := by decide +kernel
theorem dL_475 : decode code 475 = .ok (.iconst 2, 1) := by decide +kernel
theorem dL_476 : decode code 476 = .ok (.iadd, 1) := by decide +kernel
theorem dL_477 : decode code 477 = .ok (.iaload, 1) := by decide +kernel
theorem dL_478 : decode code 478 = .ok (.invokevirtual 48, 3) := by decide +kernel
theorem dL_481 : decode code 481 = .ok (.aload_n 2, 1) := by decide +kernel
theorem dL_482 : decode code 482 = .ok (.aload_n 0, 1) := by decide +kernel
theorem dL_483 : decode code 483 = .ok (.iload_n 3, 1) := by decide +kernel
theorem dL_484 : decode code 484 = .ok (.iconst 1, 1) := by decide +kernel
theorem dL_485 : decode code 485 = .ok (.iadd, 1) := by decide +kernel
theorem dL_486 : decode code 486 = .ok (.iaload, 1) := by decide +kernel
theorem dL_487 : decode code 487 = .ok (.aload_n 0, 1) := by decide +kernel
theorem dL_488 : decode code 488 = .ok (.iload_n 3, 1) := by decide +kernel
theorem dL_489 : decode code 489 = .ok (.iconst 2, 1) := by decide +kernel
theorem dL_490 : decode code 490 = .ok (.iadd, 1) := by decide +kernel
theorem dL_491 : decode code 491 = .ok (.iaload, 1) := by decide +kernel
theorem dL_492 : decode code 492 = .ok (.invokevirtual 51, 3) := by decide +kernel
theorem dL_495 : decode code 495 = .ok (.if_icmp .eq 495, 3) := by decide +kernel
theorem dL_498 : decode code 498 = .ok (.iconst 0, 1) := by decide +kernel
theorem dL_499 : decode code 499 = .ok (.ireturn, 1) := by decide +kernel
theorem dL_500 : decode code 500 = .ok (.aload_n 1, 1) := by decide +kernel
theorem dL_501 : decode code 501 = .ok (.aload_n 0, 1) := by decide +kernel
theorem dL_502 : decode code 502 = .ok (.iload_n 3, 1) := by decide +kernel
theorem dL_503 : decode code 503 = .ok (.iconst 1, 1) := by decide +kernel
theorem dL_504 : decode code 504 = .ok (.iadd, 1) := by decide +kernel
theorem dL_505 : decode code 505 = .ok (.iaload, 1) := by decide +kernel
theorem dL_506 : decode code 506 = .ok (.aload_n 0, 1) := by decide +kernel
theorem dL_507 : decode code 507 = .ok (.iload_n 3, 1) := by decide +kernel
theorem dL_508 : decode code 508 = .ok (.iconst 2, 1) := by decide +kernel
theorem dL_509 : decode code 509 = .ok (.iadd, 1) := by decide +kernel
theorem dL_510 : decode code 510 = .ok (.iaload, 1) := by decide +kernel
theorem dL_511 : decode code 511 = .ok (.aload_n 0, 1) := by decide +kernel
theorem dL_512 : decode code 512 = .ok (.iload_n 3, 1) := by decide +kernel
theorem dL_513 : decode code 513 = .ok (.iconst 3, 1) := by decide +kernel
theorem dL_514 : decode code 514 = .ok (.iadd, 1) := by decide +kernel
theorem dL_515 : decode code 515 = .ok (.iaload, 1) := by decide +kernel
theorem dL_516 : decode code 516 = .ok (.i2l, 1) := by decide +kernel
theorem dL_517 : decode code 517 = .ok (.bipush 32, 2) := by decide +kernel
theorem dL_519 : decode code 519 = .ok (.lshl, 1) := by decide +kernel
theorem dL_520 : decode code 520 = .ok (.aload_n 0, 1) := by decide +kernel
theorem dL_521 : decode code 521 = .ok (.iload_n 3, 1) := by decide +kernel
theorem dL_522 : decode code 522 = .ok (.iconst 4, 1) := by decide +kernel
theorem dL_523 : decode code 523 = .ok (.iadd, 1) := by decide +kernel
theorem dL_524 : decode code 524 = .ok (.iaload, 1) := by decide +kernel
theorem dL_525 : decode code 525 = .ok (.i2l, 1) := by decide +kernel
theorem dL_526 : decode code 526 = .ok (.ldc2_w 31, 3) := by decide +kernel
theorem dL_529 : decode code 529 = .ok (.land, 1) := by decide +kernel
theorem dL_530 : decode code 530 = .ok (.lor, 1) := by decide +kernel
theorem dL_531 : decode code 531 = .ok (.aload_n 0, 1) := by decide +kernel
theorem dL_532 : decode code 532 = .ok (.iload_n 3, 1) := by decide +kernel
theorem dL_533 : decode code 533 = .ok (.iconst 5, 1) := by decide +kernel
theorem dL_534 : decode code 534 = .ok (.iadd, 1) := by decide +kernel
theorem dL_535 : decode code 535 = .ok (.iaload, 1) := by decide +kernel
theorem dL_536 : decode code 536 = .ok (.i2l, 1) := by decide +kernel
theorem dL_537 : decode code 537 = .ok (.bipush 32, 2) := by decide +kernel
theorem dL_539 : decode code 539 = .ok (.lshl, 1) := by decide +kernel
theorem dL_540 : decode code 540 = .ok (.aload_n 0, 1) := by decide +kernel
theorem dL_541 : decode code 541 = .ok (.iload_n 3, 1) := by decide +kernel
theorem dL_542 : decode code 542 = .ok (.bipush 6, 2) := by decide +kernel
theorem dL_544 : decode code 544 = .ok (.iadd, 1) := by decide +kernel
theorem dL_545 : decode code 545 = .ok (.iaload, 1) := by decide +kernel
theorem dL_546 : decode code 546 = .ok (.i2l, 1) := by decide +kernel
theorem dL_547 : decode code 547 = .ok (.ldc2_w 31, 3) := by decide +kernel
theorem dL_550 : decode code 550 = .ok (.land, 1) := by decide +kernel
theorem dL_551 : decode code 551 = .ok (.lor, 1) := by decide +kernel
theorem dL_552 : decode code 552 = .ok (.invokevirtual 52, 3) := by decide +kernel
theorem dL_555 : decode code 555 = .ok (.aload_n 2, 1) := by decide +kernel
theorem dL_556 : decode code 556 = .ok (.aload_n 0, 1) := by decide +kernel
theorem dL_557 : decode code 557 = .ok (.iload_n 3, 1) := by decide +kernel
theorem dL_558 : decode code 558 = .ok (.iconst 1, 1) := by decide +kernel
theorem dL_559 : decode code 559 = .ok (.iadd, 1) := by decide +kernel
theorem dL_560 : decode code 560 = .ok (.iaload, 1) := by decide +kernel
theorem dL_561 : decode code 561 = .ok (.aload_n 0, 1) := by decide +kernel
theorem dL_562 : decode code 562 = .ok (.iload_n 3, 1) := by decide +kernel
theorem dL_563 : decode code 563 = .ok (.iconst 2, 1) := by decide +kernel
theorem dL_564 : decode code 564 = .ok (.iadd, 1) := by decide +kernel
theorem dL_565 : decode code 565 = .ok (.iaload, 1) := by decide +kernel
theorem dL_566 : decode code 566 = .ok (.aload_n 0, 1) := by decide +kernel
theorem dL_567 : decode code 567 = .ok (.iload_n 3, 1) := by decide +kernel
theorem dL_568 : decode code 568 = .ok (.iconst 3, 1) := by decide +kernel
theorem dL_569 : decode code 569 = .ok (.iadd, 1) := by decide +kernel
theorem dL_570 : decode code 570 = .ok (.iaload, 1) := by decide +kernel
theorem dL_571 : decode code 571 = .ok (.i2l, 1) := by decide +kernel
theorem dL_572 : decode code 572 = .ok (.bipush 32, 2) := by decide +kernel
theorem dL_574 : decode code 574 = .ok (.lshl, 1) := by decide +kernel
theorem dL_575 : decode code 575 = .ok (.aload_n 0, 1) := by decide +kernel
theorem dL_576 : decode code 576 = .ok (.iload_n 3, 1) := by decide +kernel
theorem dL_577 : decode code 577 = .ok (.iconst 4, 1) := by decide +kernel
theorem dL_578 : decode code 578 = .ok (.iadd, 1) := by decide +kernel
theorem dL_579 : decode code 579 = .ok (.iaload, 1) := by decide +kernel
theorem dL_580 : decode code 580 = .ok (.i2l, 1) := by decide +kernel
theorem dL_581 : decode code 581 = .ok (.ldc2_w 31, 3) := by decide +kernel
theorem dL_584 : decode code 584 = .ok (.land, 1) := by decide +kernel
theorem dL_585 : decode code 585 = .ok (.lor, 1) := by decide +kernel
theorem dL_586 : decode code 586 = .ok (.aload_n 0, 1) := by decide +kernel
theorem dL_587 : decode code 587 = .ok (.iload_n 3, 1) := by decide +kernel
theorem dL_588 : decode code 588 = .ok (.iconst 5, 1) := by decide +kernel
theorem dL_589 : decode code 589 = .ok (.iadd, 1) := by decide +kernel
theorem dL_590 : decode code 590 = .ok (.iaload, 1) := by decide +kernel
theorem dL_591 : decode code 591 = .ok (.i2l, 1) := by decide +kernel
theorem dL_592 : decode code 592 = .ok (.bipush 32, 2) := by decide +kernel
theorem dL_594 : decode code 594 = .ok (.lshl, 1) := by decide +kernel
theorem dL_595 : decode code 595 = .ok (.aload_n 0, 1) := by decide +kernel
theorem dL_596 : decode code 596 = .ok (.iload_n 3, 1) := by decide +kernel
theorem dL_597 : decode code 597 = .ok (.bipush 6, 2) := by decide +kernel
theorem dL_599 : decode code 599 = .ok (.iadd, 1) := by decide +kernel
theorem dL_600 : decode code 600 = .ok (.iaload, 1) := by decide +kernel
theorem dL_601 : decode code 601 = .ok (.i2l, 1) := by decide +kernel
theorem dL_602 : decode code 602 = .ok (.ldc2_w 31, 3) := by decide +kernel
theorem dL_605 : decode code 605 = .ok (.land, 1) := by decide +kernel
theorem dL_606 : decode code 606 = .ok (.lor, 1) := by decide +kernel
theorem dL_607 : decode code 607 = .ok (.invokevirtual 56, 3) := by decide +kernel
theorem dL_610 : decode code 610 = .ok (.if_icmp .eq 380, 3) := by decide +kernel
theorem dL_613 : decode code 613 = .ok (.iconst 0, 1) := by decide +kernel
theorem dL_614 : decode code 614 = .ok (.ireturn, 1) := by decide +kernel
theorem dL_615 : decode code 615 = .ok (.aload_n 1, 1) := by decide +kernel
theorem dL_616 : decode code 616 = .ok (.aload_n 0, 1) := by decide +kernel
theorem dL_617 : decode code 617 = .ok (.iload_n 3, 1) := by decide +kernel
theorem dL_618 : decode code 618 = .ok (.iconst 1, 1) := by decide +kernel
theorem dL_619 : decode code 619 = .ok (.iadd, 1) := by decide +kernel
theorem dL_620 : decode code 620 = .ok (.iaload, 1) := by decide +kernel
theorem dL_621 : decode code 621 = .ok (.aload_n 0, 1) := by decide +kernel
theorem dL_622 : decode code 622 = .ok (.iload_n 3, 1) := by decide +kernel
theorem dL_623 : decode code 623 = .ok (.iconst 2, 1) := by decide +kernel
theorem dL_624 : decode code 624 = .ok (.iadd, 1) := by decide +kernel
theorem dL_625 : decode code 625 = .ok (.iaload, 1) := by decide +kernel
theorem dL_626 : decode code 626 = .ok (.aload_n 0, 1) := by decide +kernel
theorem dL_627 : decode code 627 = .ok (.iload_n 3, 1) := by decide +kernel
theorem dL_628 : decode code 628 = .ok (.iconst 3, 1) := by decide +kernel
theorem dL_629 : decode code 629 = .ok (.iadd, 1) := by decide +kernel
theorem dL_630 : decode code 630 = .ok (.iaload, 1) := by decide +kernel
theorem dL_631 : decode code 631 = .ok (.i2l, 1) := by decide +kernel
theorem dL_632 : decode code 632 = .ok (.bipush 32, 2) := by decide +kernel
theorem dL_634 : decode code 634 = .ok (.lshl, 1) := by decide +kernel
theorem dL_635 : decode code 635 = .ok (.aload_n 0, 1) := by decide +kernel
theorem dL_636 : decode code 636 = .ok (.iload_n 3, 1) := by decide +kernel
theorem dL_637 : decode code 637 = .ok (.iconst 4, 1) := by decide +kernel
theorem dL_638 : decode code 638 = .ok (.iadd, 1) := by decide +kernel
theorem dL_639 : decode code 639 = .ok (.iaload, 1) := by decide +kernel
theorem dL_640 : decode code 640 = .ok (.i2l, 1) := by decide +kernel
theorem dL_641 : decode code 641 = .ok (.ldc2_w 31, 3) := by decide +kernel
theorem dL_644 : decode code 644 = .ok (.land, 1) := by decide +kernel
theorem dL_645 : decode code 645 = .ok (.lor, 1) := by decide +kernel
theorem dL_646 : decode code 646 = .ok (.invokevirtual 57, 3) := by decide +kernel
theorem dL_649 : decode code 649 = .ok (.aload_n 2, 1) := by decide +kernel
theorem dL_650 : decode code 650 = .ok (.aload_n 0, 1) := by decide +kernel
theorem dL_651 : decode code 651 = .ok (.iload_n 3, 1) := by decide +kernel
theorem dL_652 : decode code 652 = .ok (.iconst 1, 1) := by decide +kernel
theorem dL_653 : decode code 653 = .ok (.iadd, 1) := by decide +kernel
theorem dL_654 : decode code 654 = .ok (.iaload, 1) := by decide +kernel
theorem dL_655 : decode code 655 = .ok (.aload_n 0, 1) := by decide +kernel
theorem dL_656 : decode code 656 = .ok (.iload_n 3, 1) := by decide +kernel
theorem dL_657 : decode code 657 = .ok (.iconst 2, 1) := by decide +kernel
theorem dL_658 : decode code 658 = .ok (.iadd, 1) := by decide +kernel
theorem dL_659 : decode code 659 = .ok (.iaload, 1) := by decide +kernel
theorem dL_660 : decode code 660 = .ok (.aload_n 0, 1) := by decide +kernel
theorem dL_661 : decode code 661 = .ok (.iload_n 3, 1) := by decide +kernel
theorem dL_662 : decode code 662 = .ok (.iconst 3, 1) := by decide +kernel
theorem dL_663 : decode code 663 = .ok (.iadd, 1) := by decide +kernel
theorem dL_664 : decode code 664 = .ok (.iaload, 1) := by decide +kernel
theorem dL_665 : decode code 665 = .ok (.i2l, 1) := by decide +kernel
theorem dL_666 : decode code 666 = .ok (.bipush 32, 2) := by decide +kernel
theorem dL_668 : decode code 668 = .ok (.lshl, 1) := by decide +kernel
theorem dL_669 : decode code 669 = .ok (.aload_n 0, 1) := by decide +kernel
theorem dL_670 : decode code 670 = .ok (.iload_n 3, 1) := by decide +kernel
theorem dL_671 : decode code 671 = .ok (.iconst 4, 1) := by decide +kernel
theorem dL_672 : decode code 672 = .ok (.iadd, 1) := by decide +kernel
theorem dL_673 : decode code 673 = .ok (.iaload, 1) := by decide +kernel
theorem dL_674 : decode code 674 = .ok (.i2l, 1) := by decide +kernel
theorem dL_675 : decode code 675 = .ok (.ldc2_w 31, 3) := by decide +kernel
theorem dL_678 : decode code 678 = .ok (.land, 1) := by decide +kernel
theorem dL_679 : decode code 679 = .ok (.lor, 1) := by decide +kernel
theorem dL_680 : decode code 680 = .ok (.invokevirtual 60, 3) := by decide +kernel
theorem dL_683 : decode code 683 = .ok (.if_icmp .eq 307, 3) := by decide +kernel
theorem dL_686 : decode code 686 = .ok (.iconst 0, 1) := by decide +kernel
theorem dL_687 : decode code 687 = .ok (.ireturn, 1) := by decide +kernel
theorem dL_688 : decode code 688 = .ok (.aload_n 1, 1) := by decide +kernel
theorem dL_689 : decode code 689 = .ok (.aload_n 0, 1) := by decide +kernel
theorem dL_690 : decode code 690 = .ok (.iload_n 3, 1) := by decide +kernel
theorem dL_691 : decode code 691 = .ok (.iconst 1, 1) := by decide +kernel
theorem dL_692 : decode code 692 = .ok (.iadd, 1) := by decide +kernel
theorem dL_693 : decode code 693 = .ok (.iaload, 1) := by decide +kernel
theorem dL_694 : decode code 694 = .ok (.i2l, 1) := by decide +kernel
theorem dL_695 : decode code 695 = .ok (.bipush 32, 2) := by decide +kernel
theorem dL_697 : decode code 697 = .ok (.lshl, 1) := by decide +kernel
theorem dL_698 : decode code 698 = .ok (.aload_n 0, 1) := by decide +kernel
theorem dL_699 : decode code 699 = .ok (.iload_n 3, 1) := by decide +kernel
theorem dL_700 : decode code 700 = .ok (.iconst 2, 1) := by decide +kernel
theorem dL_701 : decode code 701 = .ok (.iadd, 1) := by decide +kernel
theorem dL_702 : decode code 702 = .ok (.iaload, 1) := by decide +kernel
theorem dL_703 : decode code 703 = .ok (.i2l, 1) := by decide +kernel
theorem dL_704 : decode code 704 = .ok (.ldc2_w 31, 3) := by decide +kernel
theorem dL_707 : decode code 707 = .ok (.land, 1) := by decide +kernel
theorem dL_708 : decode code 708 = .ok (.lor, 1) := by decide +kernel
theorem dL_709 : decode code 709 = .ok (.invokevirtual 61, 3) := by decide +kernel
theorem dL_712 : decode code 712 = .ok (.aload_n 2, 1) := by decide +kernel
theorem dL_713 : decode code 713 = .ok (.aload_n 0, 1) := by decide +kernel
theorem dL_714 : decode code 714 = .ok (.iload_n 3, 1) := by decide +kernel
theorem dL_715 : decode code 715 = .ok (.iconst 1, 1) := by decide +kernel
theorem dL_716 : decode code 716 = .ok (.iadd, 1) := by decide +kernel
theorem dL_717 : decode code 717 = .ok (.iaload, 1) := by decide +kernel
theorem dL_718 : decode code 718 = .ok (.i2l, 1) := by decide +kernel
theorem dL_719 : decode code 719 = .ok (.bipush 32, 2) := by decide +kernel
theorem dL_721 : decode code 721 = .ok (.lshl, 1) := by decide +kernel
theorem dL_722 : decode code 722 = .ok (.aload_n 0, 1) := by decide +kernel
theorem dL_723 : decode code 723 = .ok (.iload_n 3, 1) := by decide +kernel
theorem dL_724 : decode code 724 = .ok (.iconst 2, 1) := by decide +kernel
theorem dL_725 : decode code 725 = .ok (.iadd, 1) := by decide +kernel
theorem dL_726 : decode code 726 = .ok (.iaload, 1) := by decide +kernel
theorem dL_727 : decode code 727 = .ok (.i2l, 1) := by decide +kernel
theorem dL_728 : decode code 728 = .ok (.ldc2_w 31, 3) := by decide +kernel
theorem dL_731 : decode code 731 = .ok (.land, 1) := by decide +kernel
theorem dL_732 : decode code 732 = .ok (.lor, 1) := by decide +kernel
theorem dL_733 : decode code 733 = .ok (.invokevirtual 65, 3) := by decide +kernel
theorem dL_736 : decode code 736 = .ok (.if_icmp .eq 254, 3) := by decide +kernel
theorem dL_739 : decode code 739 = .ok (.iconst 0, 1) := by decide +kernel
theorem dL_740 : decode code 740 = .ok (.ireturn, 1) := by decide +kernel
theorem dL_741 : decode code 741 = .ok (.aload_n 1, 1) := by decide +kernel
theorem dL_742 : decode code 742 = .ok (.aload_n 0, 1) := by decide +kernel
theorem dL_743 : decode code 743 = .ok (.iload_n 3, 1) := by decide +kernel
theorem dL_744 : decode code 744 = .ok (.iconst 1, 1) := by decide +kernel
theorem dL_745 : decode code 745 = .ok (.iadd, 1) := by decide +kernel
theorem dL_746 : decode code 746 = .ok (.iaload, 1) := by decide +kernel
theorem dL_747 : decode code 747 = .ok (.aload_n 0, 1) := by decide +kernel
theorem dL_748 : decode code 748 = .ok (.iload_n 3, 1) := by decide +kernel
theorem dL_749 : decode code 749 = .ok (.iconst 2, 1) := by decide +kernel
theorem dL_750 : decode code 750 = .ok (.iadd, 1) := by decide +kernel
theorem dL_751 : decode code 751 = .ok (.iaload, 1) := by decide +kernel
theorem dL_752 : decode code 752 = .ok (.invokevirtual 66, 3) := by decide +kernel
theorem dL_755 : decode code 755 = .ok (.aload_n 2, 1) := by decide +kernel
theorem dL_756 : decode code 756 = .ok (.aload_n 0, 1) := by decide +kernel
theorem dL_757 : decode code 757 = .ok (.iload_n 3, 1) := by decide +kernel
theorem dL_758 : decode code 758 = .ok (.iconst 1, 1) := by decide +kernel
theorem dL_759 : decode code 759 = .ok (.iadd, 1) := by decide +kernel
theorem dL_760 : decode code 760 = .ok (.iaload, 1) := by decide +kernel
theorem dL_761 : decode code 761 = .ok (.aload_n 0, 1) := by decide +kernel
theorem dL_762 : decode code 762 = .ok (.iload_n 3, 1) := by decide +kernel
theorem dL_763 : decode code 763 = .ok (.iconst 2, 1) := by decide +kernel
theorem dL_764 : decode code 764 = .ok (.iadd, 1) := by decide +kernel
theorem dL_765 : decode code 765 = .ok (.iaload, 1) := by decide +kernel
theorem dL_766 : decode code 766 = .ok (.invokevirtual 69, 3) := by decide +kernel
theorem dL_769 : decode code 769 = .ok (.if_icmp .eq 221, 3) := by decide +kernel
theorem dL_772 : decode code 772 = .ok (.iconst 0, 1) := by decide +kernel
theorem dL_773 : decode code 773 = .ok (.ireturn, 1) := by decide +kernel
theorem dL_774 : decode code 774 = .ok (.aload_n 1, 1) := by decide +kernel
theorem dL_775 : decode code 775 = .ok (.aload_n 0, 1) := by decide +kernel
theorem dL_776 : decode code 776 = .ok (.iload_n 3, 1) := by decide +kernel
theorem dL_777 : decode code 777 = .ok (.iconst 1, 1) := by decide +kernel
theorem dL_778 : decode code 778 = .ok (.iadd, 1) := by decide +kernel
theorem dL_779 : decode code 779 = .ok (.iaload, 1) := by decide +kernel
theorem dL_780 : decode code 780 = .ok (.aload_n 0, 1) := by decide +kernel
theorem dL_781 : decode code 781 = .ok (.iload_n 3, 1) := by decide +kernel
theorem dL_782 : decode code 782 = .ok (.iconst 2, 1) := by decide +kernel
theorem dL_783 : decode code 783 = .ok (.iadd, 1) := by decide +kernel
theorem dL_784 : decode code 784 = .ok (.iaload, 1) := by decide +kernel
theorem dL_785 : decode code 785 = .ok (.invokevirtual 70, 3) := by decide +kernel
theorem dL_788 : decode code 788 = .ok (.aload_n 2, 1) := by decide +kernel
theorem dL_789 : decode code 789 = .ok (.aload_n 0, 1) := by decide +kernel
theorem dL_790 : decode code 790 = .ok (.iload_n 3, 1) := by decide +kernel
theorem dL_791 : decode code 791 = .ok (.iconst 1, 1) := by decide +kernel
theorem dL_792 : decode code 792 = .ok (.iadd, 1) := by decide +kernel
theorem dL_793 : decode code 793 = .ok (.iaload, 1) := by decide +kernel
theorem dL_794 : decode code 794 = .ok (.aload_n 0, 1) := by decide +kernel
theorem dL_795 : decode code 795 = .ok (.iload_n 3, 1) := by decide +kernel
theorem dL_796 : decode code 796 = .ok (.iconst 2, 1) := by decide +kernel
theorem dL_797 : decode code 797 = .ok (.iadd, 1) := by decide +kernel
theorem dL_798 : decode code 798 = .ok (.iaload, 1) := by decide +kernel
theorem dL_799 : decode code 799 = .ok (.invokevirtual 73, 3) := by decide +kernel
theorem dL_802 : decode code 802 = .ok (.if_icmp .eq 188, 3) := by decide +kernel
theorem dL_805 : decode code 805 = .ok (.iconst 0, 1) := by decide +kernel
theorem dL_806 : decode code 806 = .ok (.ireturn, 1) := by decide +kernel
theorem dL_807 : decode code 807 = .ok (.aload_n 1, 1) := by decide +kernel
theorem dL_808 : decode code 808 = .ok (.aload_n 0, 1) := by decide +kernel
theorem dL_809 : decode code 809 = .ok (.iload_n 3, 1) := by decide +kernel
theorem dL_810 : decode code 810 = .ok (.iconst 1, 1) := by decide +kernel
theorem dL_811 : decode code 811 = .ok (.iadd, 1) := by decide +kernel
theorem dL_812 : decode code 812 = .ok (.iaload, 1) := by decide +kernel
theorem dL_813 : decode code 813 = .ok (.invokevirtual 74, 3) := by decide +kernel
theorem dL_816 : decode code 816 = .ok (.aload_n 2, 1) := by decide +kernel
theorem dL_817 : decode code 817 = .ok (.aload_n 0, 1) := by decide +kernel
theorem dL_818 : decode code 818 = .ok (.iload_n 3, 1) := by decide +kernel
theorem dL_819 : decode code 819 = .ok (.iconst 1, 1) := by decide +kernel
theorem dL_820 : decode code 820 = .ok (.iadd, 1) := by decide +kernel
theorem dL_821 : decode code 821 = .ok (.iaload, 1) := by decide +kernel
theorem dL_822 : decode code 822 = .ok (.invokevirtual 78, 3) := by decide +kernel
theorem dL_825 : decode code 825 = .ok (.goto 165, 3) := by decide +kernel
theorem dL_828 : decode code 828 = .ok (.aload_n 1, 1) := by decide +kernel
theorem dL_829 : decode code 829 = .ok (.invokevirtual 79, 3) := by decide +kernel
theorem dL_832 : decode code 832 = .ok (.aload_n 2, 1) := by decide +kernel
theorem dL_833 : decode code 833 = .ok (.invokevirtual 83, 3) := by decide +kernel
theorem dL_836 : decode code 836 = .ok (.if_icmp .eq 154, 3) := by decide +kernel
theorem dL_839 : decode code 839 = .ok (.iconst 0, 1) := by decide +kernel
theorem dL_840 : decode code 840 = .ok (.ireturn, 1) := by decide +kernel
theorem dL_841 : decode code 841 = .ok (.aload_n 1, 1) := by decide +kernel
theorem dL_842 : decode code 842 = .ok (.invokevirtual 84, 3) := by decide +kernel
theorem dL_845 : decode code 845 = .ok (.aload_n 2, 1) := by decide +kernel
theorem dL_846 : decode code 846 = .ok (.invokevirtual 87, 3) := by decide +kernel
theorem dL_849 : decode code 849 = .ok (.if_icmp .eq 141, 3) := by decide +kernel
theorem dL_852 : decode code 852 = .ok (.iconst 0, 1) := by decide +kernel
theorem dL_853 : decode code 853 = .ok (.ireturn, 1) := by decide +kernel
theorem dL_854 : decode code 854 = .ok (.aload_n 1, 1) := by decide +kernel
theorem dL_855 : decode code 855 = .ok (.aload_n 0, 1) := by decide +kernel
theorem dL_856 : decode code 856 = .ok (.iload_n 3, 1) := by decide +kernel
theorem dL_857 : decode code 857 = .ok (.iconst 1, 1) := by decide +kernel
theorem dL_858 : decode code 858 = .ok (.iadd, 1) := by decide +kernel
theorem dL_859 : decode code 859 = .ok (.iaload, 1) := by decide +kernel
theorem dL_860 : decode code 860 = .ok (.aload_n 0, 1) := by decide +kernel
theorem dL_861 : decode code 861 = .ok (.iload_n 3, 1) := by decide +kernel
theorem dL_862 : decode code 862 = .ok (.iconst 2, 1) := by decide +kernel
theorem dL_863 : decode code 863 = .ok (.iadd, 1) := by decide +kernel
theorem dL_864 : decode code 864 = .ok (.iaload, 1) := by decide +kernel
theorem dL_865 : decode code 865 = .ok (.invokevirtual 88, 3) := by decide +kernel
theorem dL_868 : decode code 868 = .ok (.aload_n 2, 1) := by decide +kernel
theorem dL_869 : decode code 869 = .ok (.aload_n 0, 1) := by decide +kernel
theorem dL_870 : decode code 870 = .ok (.iload_n 3, 1) := by decide +kernel
theorem dL_871 : decode code 871 = .ok (.iconst 1, 1) := by decide +kernel
theorem dL_872 : decode code 872 = .ok (.iadd, 1) := by decide +kernel
theorem dL_873 : decode code 873 = .ok (.iaload, 1) := by decide +kernel
theorem dL_874 : decode code 874 = .ok (.aload_n 0, 1) := by decide +kernel
theorem dL_875 : decode code 875 = .ok (.iload_n 3, 1) := by decide +kernel
theorem dL_876 : decode code 876 = .ok (.iconst 2, 1) := by decide +kernel
theorem dL_877 : decode code 877 = .ok (.iadd, 1) := by decide +kernel
theorem dL_878 : decode code 878 = .ok (.iaload, 1) := by decide +kernel
theorem dL_879 : decode code 879 = .ok (.invokevirtual 91, 3) := by decide +kernel
theorem dL_882 : decode code 882 = .ok (.if_icmp .eq 108, 3) := by decide +kernel
theorem dL_885 : decode code 885 = .ok (.iconst 0, 1) := by decide +kernel
theorem dL_886 : decode code 886 = .ok (.ireturn, 1) := by decide +kernel
theorem dL_887 : decode code 887 = .ok (.aload_n 1, 1) := by decide +kernel
theorem dL_888 : decode code 888 = .ok (.aload_n 0, 1) := by decide +kernel
theorem dL_889 : decode code 889 = .ok (.iload_n 3, 1) := by decide +kernel
theorem dL_890 : decode code 890 = .ok (.iconst 1, 1) := by decide +kernel
theorem dL_891 : decode code 891 = .ok (.iadd, 1) := by decide +kernel
theorem dL_892 : decode code 892 = .ok (.iaload, 1) := by decide +kernel
theorem dL_893 : decode code 893 = .ok (.aload_n 0, 1) := by decide +kernel
theorem dL_894 : decode code 894 = .ok (.iload_n 3, 1) := by decide +kernel
theorem dL_895 : decode code 895 = .ok (.iconst 2, 1) := by decide +kernel
theorem dL_896 : decode code 896 = .ok (.iadd, 1) := by decide +kernel
theorem dL_897 : decode code 897 = .ok (.iaload, 1) := by decide +kernel
theorem dL_898 : decode code 898 = .ok (.i2l, 1) := by decide +kernel
theorem dL_899 : decode code 899 = .ok (.bipush 32, 2) := by decide +kernel
theorem dL_901 : decode code 901 = .ok (.lshl, 1) := by decide +kernel
theorem dL_902 : decode code 902 = .ok (.aload_n 0, 1) := by decide +kernel
theorem dL_903 : decode code 903 = .ok (.iload_n 3, 1) := by decide +kernel
theorem dL_904 : decode code 904 = .ok (.iconst 3, 1) := by decide +kernel
theorem dL_905 : decode code 905 = .ok (.iadd, 1) := by decide +kernel
theorem dL_906 : decode code 906 = .ok (.iaload, 1) := by decide +kernel
theorem dL_907 : decode code 907 = .ok (.i2l, 1) := by decide +kernel
theorem dL_908 : decode code 908 = .ok (.ldc2_w 31, 3) := by decide +kernel
theorem dL_911 : decode code 911 = .ok (.land, 1) := by decide +kernel
theorem dL_912 : decode code 912 = .ok (.lor, 1) := by decide +kernel
theorem dL_913 : decode code 913 = .ok (.aload_n 0, 1) := by decide +kernel
theorem dL_914 : decode code 914 = .ok (.iload_n 3, 1) := by decide +kernel
theorem dL_915 : decode code 915 = .ok (.iconst 4, 1) := by decide +kernel
theorem dL_916 : decode code 916 = .ok (.iadd, 1) := by decide +kernel
theorem dL_917 : decode code 917 = .ok (.iaload, 1) := by decide +kernel
theorem dL_918 : decode code 918 = .ok (.i2l, 1) := by decide +kernel
theorem dL_919 : decode code 919 = .ok (.bipush 32, 2) := by decide +kernel
theorem dL_921 : decode code 921 = .ok (.lshl, 1) := by decide +kernel
theorem dL_922 : decode code 922 = .ok (.aload_n 0, 1) := by decide +kernel
theorem dL_923 : decode code 923 = .ok (.iload_n 3, 1) := by decide +kernel
theorem dL_924 : decode code 924 = .ok (.iconst 5, 1) := by decide +kernel
theorem dL_925 : decode code 925 = .ok (.iadd, 1) := by decide +kernel
theorem dL_926 : decode code 926 = .ok (.iaload, 1) := by decide +kernel
theorem dL_927 : decode code 927 = .ok (.i2l, 1) := by decide +kernel
theorem dL_928 : decode code 928 = .ok (.ldc2_w 31, 3) := by decide +kernel
theorem dL_931 : decode code 931 = .ok (.land, 1) := by decide +kernel
theorem dL_932 : decode code 932 = .ok (.lor, 1) := by decide +kernel
theorem dL_933 : decode code 933 = .ok (.invokevirtual 92, 3) := by decide +kernel
theorem dL_936 : decode code 936 = .ok (.aload_n 2, 1) := by decide +kernel
theorem dL_937 : decode code 937 = .ok (.aload_n 0, 1) := by decide +kernel
theorem dL_938 : decode code 938 = .ok (.iload_n 3, 1) := by decide +kernel
theorem dL_939 : decode code 939 = .ok (.iconst 1, 1) := by decide +kernel
theorem dL_940 : decode code 940 = .ok (.iadd, 1) := by decide +kernel
theorem dL_941 : decode code 941 = .ok (.iaload, 1) := by decide +kernel
theorem dL_942 : decode code 942 = .ok (.aload_n 0, 1) := by decide +kernel
theorem dL_943 : decode code 943 = .ok (.iload_n 3, 1) := by decide +kernel
theorem dL_944 : decode code 944 = .ok (.iconst 2, 1) := by decide +kernel
theorem dL_945 : decode code 945 = .ok (.iadd, 1) := by decide +kernel
theorem dL_946 : decode code 946 = .ok (.iaload, 1) := by decide +kernel
theorem dL_947 : decode code 947 = .ok (.i2l, 1) := by decide +kernel
theorem dL_948 : decode code 948 = .ok (.bipush 32, 2) := by decide +kernel
theorem dL_950 : decode code 950 = .ok (.lshl, 1) := by decide +kernel
theorem dL_951 : decode code 951 = .ok (.aload_n 0, 1) := by decide +kernel
theorem dL_952 : decode code 952 = .ok (.iload_n 3, 1) := by decide +kernel
theorem dL_953 : decode code 953 = .ok (.iconst 3, 1) := by decide +kernel
theorem dL_954 : decode code 954 = .ok (.iadd, 1) := by decide +kernel
theorem dL_955 : decode code 955 = .ok (.iaload, 1) := by decide +kernel
theorem dL_956 : decode code 956 = .ok (.i2l, 1) := by decide +kernel
theorem dL_957 : decode code 957 = .ok (.ldc2_w 31, 3) := by decide +kernel
theorem dL_960 : decode code 960 = .ok (.land, 1) := by decide +kernel
theorem dL_961 : decode code 961 = .ok (.lor, 1) := by decide +kernel
theorem dL_962 : decode code 962 = .ok (.aload_n 0, 1) := by decide +kernel
theorem dL_963 : decode code 963 = .ok (.iload_n 3, 1) := by decide +kernel
theorem dL_964 : decode code 964 = .ok (.iconst 4, 1) := by decide +kernel
theorem dL_965 : decode code 965 = .ok (.iadd, 1) := by decide +kernel
theorem dL_966 : decode code 966 = .ok (.iaload, 1) := by decide +kernel
theorem dL_967 : decode code 967 = .ok (.i2l, 1) := by decide +kernel
theorem dL_968 : decode code 968 = .ok (.bipush 32, 2) := by decide +kernel
theorem dL_970 : decode code 970 = .ok (.lshl, 1) := by decide +kernel
theorem dL_971 : decode code 971 = .ok (.aload_n 0, 1) := by decide +kernel
theorem dL_972 : decode code 972 = .ok (.iload_n 3, 1) := by decide +kernel
theorem dL_973 : decode code 973 = .ok (.iconst 5, 1) := by decide +kernel
theorem dL_974 : decode code 974 = .ok (.iadd, 1) := by decide +kernel
theorem dL_975 : decode code 975 = .ok (.iaload, 1) := by decide +kernel
theorem dL_976 : decode code 976 = .ok (.i2l, 1) := by decide +kernel
theorem dL_977 : decode code 977 = .ok (.ldc2_w 31, 3) := by decide +kernel
theorem dL_980 : decode code 980 = .ok (.land, 1) := by decide +kernel
theorem dL_981 : decode code 981 = .ok (.lor, 1) := by decide +kernel
theorem dL_982 : decode code 982 = .ok (.invokevirtual 96, 3) := by decide +kernel
theorem dL_985 : decode code 985 = .ok (.if_icmp .eq 5, 3) := by decide +kernel
theorem dL_988 : decode code 988 = .ok (.iconst 0, 1) := by decide +kernel
theorem dL_989 : decode code 989 = .ok (.ireturn, 1) := by decide +kernel
theorem dL_990 : decode code 990 = .ok (.iinc 3 7, 3) := by decide +kernel
theorem dL_993 : decode code 993 = .ok (.goto (-975), 3) := by decide +kernel
theorem dL_996 : decode code 996 = .ok (.iconst 1, 1) := by decide +kernel
theorem dL_997 : decode code 997 = .ok (.ireturn, 1) := by decide +kernel

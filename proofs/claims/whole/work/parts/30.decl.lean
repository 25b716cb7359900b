theorem dl_0 : decode code 0 = .ok (.new 7, 3) := by decide +kernel
theorem dl_3 : decode code 3 = .ok (.dup, 1) := by decide +kernel
theorem dl_4 : decode code 4 = .ok (.invokespecial 9, 3) := by decide +kernel
theorem dl_7 : decode code 7 = .ok (.astore_n 1, 1) := by decide +kernel
theorem dl_8 : decode code 8 = .ok (.new 10, 3) := by decide +kernel
theorem dl_11 : decode code 11 = .ok (.dup, 1) := by decide +kernel
theorem dl_12 : decode code 12 = .ok (.invokespecial 12, 3) := by decide +kernel
theorem dl_15 : decode code 15 = .ok (.astore_n 2, 1) := by decide +kernel
theorem dl_16 : decode code 16 = .ok (.iconst 0, 1) := by decide +kernel
theorem dl_17 : decode code 17 = .ok (.istore_n 3, 1) := by decide +kernel
theorem dl_18 : decode code 18 = .ok (.iload_n 3, 1) := by decide +kernel
theorem dl_19 : decode code 19 = .ok (.aload_n 0, 1) := by decide +kernel
theorem dl_20 : decode code 20 = .ok (.arraylength, 1) := by decide +kernel
theorem dl_21 : decode code 21 = .ok (.iconst 5, 1) := by decide +kernel
theorem dl_22 : decode code 22 = .ok (.isub, 1) := by decide +kernel
theorem dl_23 : decode code 23 = .ok (.if_icmp .gt 644, 3) := by decide +kernel
theorem dl_26 : decode code 26 = .ok (.aload_n 0, 1) := by decide +kernel
theorem dl_27 : decode code 27 = .ok (.iload_n 3, 1) := by decide +kernel
theorem dl_28 : decode code 28 = .ok (.iaload, 1) := by decide +kernel
theorem dl_29 : decode code 29 = .ok (.bipush 31, 2) := by decide +kernel
theorem dl_31 : decode code 31 = .ok (.iand, 1) := by decide +kernel
theorem dl_32 : decode code 32 = .ok (.tableswitch 629 0 18 #[92, 125, 168, 201, 244, 297, 310, 353, 386, 419, 442, 475, 508, 521, 534, 547, 570, 593, 606], 92) := by decide +kernel
theorem dl_124 : decode code 124 = .ok (.aload_n 1, 1) := by decide +kernel
theorem dl_125 : decode code 125 = .ok (.aload_n 0, 1) := by decide +kernel
theorem dl_126 : decode code 126 = .ok (.iload_n 3, 1) := by decide +kernel
theorem dl_127 : decode code 127 = .ok (.iconst 1, 1) := by decide +kernel
theorem dl_128 : decode code 128 = .ok (.iadd, 1) := by decide +kernel
theorem dl_129 : decode code 129 = .ok (.iaload, 1) := by decide +kernel
theorem dl_130 : decode code 130 = .ok (.aload_n 0, 1) := by decide +kernel
theorem dl_131 : decode code 131 = .ok (.iload_n 3, 1) := by decide +kernel
theorem dl_132 : decode code 132 = .ok (.iconst 2, 1) := by decide +kernel
theorem dl_133 : decode code 133 = .ok (.iadd, 1) := by decide +kernel
theorem dl_134 : decode code 134 = .ok (.iaload, 1) := by decide +kernel
theorem dl_135 : decode code 135 = .ok (.invokevirtual 13, 3) := by decide +kernel
theorem dl_138 : decode code 138 = .ok (.aload_n 2, 1) := by decide +kernel
theorem dl_139 : decode code 139 = .ok (.aload_n 0, 1) := by decide +kernel
theorem dl_140 : decode code 140 = .ok (.iload_n 3, 1) := by decide +kernel
theorem dl_141 : decode code 141 = .ok (.iconst 1, 1) := by decide +kernel
theorem dl_142 : decode code 142 = .ok (.iadd, 1) := by decide +kernel
theorem dl_143 : decode code 143 = .ok (.iaload, 1) := by decide +kernel
theorem dl_144 : decode code 144 = .ok (.aload_n 0, 1) := by decide +kernel
theorem dl_145 : decode code 145 = .ok (.iload_n 3, 1) := by decide +kernel
theorem dl_146 : decode code 146 = .ok (.iconst 2, 1) := by decide +kernel
theorem dl_147 : decode code 147 = .ok (.iadd, 1) := by decide +kernel
theorem dl_148 : decode code 148 = .ok (.iaload, 1) := by decide +kernel
theorem dl_149 : decode code 149 = .ok (.invokevirtual 17, 3) := by decide +kernel
theorem dl_152 : decode code 152 = .ok (.if_icmp .eq 509, 3) := by decide +kernel
theorem dl_155 : decode code 155 = .ok (.iconst 0, 1) := by decide +kernel
theorem dl_156 : decode code 156 = .ok (.ireturn, 1) := by decide +kernel
theorem dl_157 : decode code 157 = .ok (.aload_n 1, 1) := by decide +kernel
theorem dl_158 : decode code 158 = .ok (.aload_n 0, 1) := by decide +kernel
theorem dl_159 : decode code 159 = .ok (.iload_n 3, 1) := by decide +kernel
theorem dl_160 : decode code 160 = .ok (.iconst 1, 1) := by decide +kernel
theorem dl_161 : decode code 161 = .ok (.iadd, 1) := by decide +kernel
theorem dl_162 : decode code 162 = .ok (.iaload, 1) := by decide +kernel
theorem dl_163 : decode code 163 = .ok (.aload_n 0, 1) := by decide +kernel
theorem dl_164 : decode code 164 = .ok (.iload_n 3, 1) := by decide +kernel
theorem dl_165 : decode code 165 = .ok (.iconst 2, 1) := by decide +kernel
theorem dl_166 : decode code 166 = .ok (.iadd, 1) := by decide +kernel
theorem dl_167 : decode code 167 = .ok (.iaload, 1) := by decide +kernel
theorem dl_168 : decode code 168 = .ok (.aload_n 0, 1) := by decide +kernel
theorem dl_169 : decode code 169 = .ok (.iload_n 3, 1) := by decide +kernel
theorem dl_170 : decode code 170 = .ok (.iconst 3, 1) := by decide +kernel
theorem dl_171 : decode code 171 = .ok (.iadd, 1) := by decide +kernel
theorem dl_172 : decode code 172 = .ok (.iaload, 1) := by decide +kernel
theorem dl_173 : decode code 173 = .ok (.invokevirtual 18, 3) := by decide +kernel
theorem dl_176 : decode code 176 = .ok (.aload_n 2, 1) := by decide +kernel
theorem dl_177 : decode code 177 = .ok (.aload_n 0, 1) := by decide +kernel
theorem dl_178 : decode code 178 = .ok (.iload_n 3, 1) := by decide +kernel
theorem dl_179 : decode code 179 = .ok (.iconst 1, 1) := by decide +kernel
theorem dl_180 : decode code 180 = .ok (.iadd, 1) := by decide +kernel
theorem dl_181 : decode code 181 = .ok (.iaload, 1) := by decide +kernel
theorem dl_182 : decode code 182 = .ok (.aload_n 0, 1) := by decide +kernel
theorem dl_183 : decode code 183 = .ok (.iload_n 3, 1) := by decide +kernel
theorem dl_184 : decode code 184 = .ok (.iconst 2, 1) := by decide +kernel
theorem dl_185 : decode code 185 = .ok (.iadd, 1) := by decide +kernel
theorem dl_186 : decode code 186 = .ok (.iaload, 1) := by decide +kernel
theorem dl_187 : decode code 187 = .ok (.aload_n 0, 1) := by decide +kernel
theorem dl_188 : decode code 188 = .ok (.iload_n 3, 1) := by decide +kernel
theorem dl_189 : decode code 189 = .ok (.iconst 3, 1) := by decide +kernel
theorem dl_190 : decode code 190 = .ok (.iadd, 1) := by decide +kernel
theorem dl_191 : decode code 191 = .ok (.iaload, 1) := by decide +kernel
theorem dl_192 : decode code 192 = .ok (.invokevirtual 22, 3) := by decide +kernel
theorem dl_195 : decode code 195 = .ok (.if_icmp .eq 466, 3) := by decide +kernel
theorem dl_198 : decode code 198 = .ok (.iconst 0, 1) := by decide +kernel
theorem dl_199 : decode code 199 = .ok (.ireturn, 1) := by decide +kernel
theorem dl_200 : decode code 200 = .ok (.aload_n 1, 1) := by decide +kernel
theorem dl_201 : decode code 201 = .ok (.aload_n 0, 1) := by decide +kernel
theorem dl_202 : decode code 202 = .ok (.iload_n 3, 1) := by decide +kernel
theorem dl_203 : decode code 203 = .ok (.iconst 1, 1) := by decide +kernel
theorem dl_204 : decode code 204 = .ok (.iadd, 1) := by decide +kernel
theorem dl_205 : decode code 205 = .ok (.iaload, 1) := by decide +kernel
theorem dl_206 : decode code 206 = .ok (.aload_n 0, 1) := by decide +kernel
theorem dl_207 : decode code 207 = .ok (.iload_n 3, 1) := by decide +kernel
theorem dl_208 : decode code 208 = .ok (.iconst 2, 1) := by decide +kernel
theorem dl_209 : decode code 209 = .ok (.iadd, 1) := by decide +kernel
theorem dl_210 : decode code 210 = .ok (.iaload, 1) := by decide +kernel
theorem dl_211 : decode code 211 = .ok (.invokevirtual 23, 3) := by decide +kernel
theorem dl_214 : decode code 214 = .ok (.aload_n 2, 1) := by decide +kernel
theorem dl_215 : decode code 215 = .ok (.aload_n 0, 1) := by decide +kernel
theorem dl_216 : decode code 216 = .ok (.iload_n 3, 1) := by decide +kernel
theorem dl_217 : decode code 217 = .ok (.iconst 1, 1) := by decide +kernel
theorem dl_218 : decode code 218 = .ok (.iadd, 1) := by decide +kernel
theorem dl_219 : decode code 219 = .ok (.iaload, 1) := by decide +kernel
theorem dl_220 : decode code 220 = .ok (.aload_n 0, 1) := by decide +kernel
theorem dl_221 : decode code 221 = .ok (.iload_n 3, 1) := by decide +kernel
theorem dl_222 : decode code 222 = .ok (.iconst 2, 1) := by decide +kernel
theorem dl_223 : decode code 223 = .ok (.iadd, 1) := by decide +kernel
theorem dl_224 : decode code 224 = .ok (.iaload, 1) := by decide +kernel
theorem dl_225 : decode code 225 = .ok (.invokevirtual 27, 3) := by decide +kernel
theorem dl_228 : decode code 228 = .ok (.if_icmp .eq 433, 3) := by decide +kernel
theorem dl_231 : decode code 231 = .ok (.iconst 0, 1) := by decide +kernel
theorem dl_232 : decode code 232 = .ok (.ireturn, 1) := by decide +kernel
theorem dl_233 : decode code 233 = .ok (.aload_n 1, 1) := by decide +kernel
theorem dl_234 : decode code 234 = .ok (.aload_n 0, 1) := by decide +kernel
theorem dl_235 : decode code 235 = .ok (.iload_n 3, 1) := by decide +kernel
theorem dl_236 : decode code 236 = .ok (.iconst 1, 1) := by decide +kernel
theorem dl_237 : decode code 237 = .ok (.iadd, 1) := by decide +kernel
theorem dl_238 : decode code 238 = .ok (.iaload, 1) := by decide +kernel
theorem dl_239 : decode code 239 = .ok (.aload_n 0, 1) := by decide +kernel
theorem dl_240 : decode code 240 = .ok (.iload_n 3, 1) := by decide +kernel
theorem dl_241 : decode code 241 = .ok (.iconst 2, 1) := by decide +kernel
theorem dl_242 : decode code 242 = .ok (.iadd, 1) := by decide +kernel
theorem dl_243 : decode code 243 = .ok (.iaload, 1) := by decide +kernel
theorem dl_244 : decode code 244 = .ok (.aload_n 0, 1) := by decide +kernel
theorem dl_245 : decode code 245 = .ok (.iload_n 3, 1) := by decide +kernel
theorem dl_246 : decode code 246 = .ok (.iconst 3, 1) := by decide +kernel
theorem dl_247 : decode code 247 = .ok (.iadd, 1) := by decide +kernel
theorem dl_248 : decode code 248 = .ok (.iaload, 1) := by decide +kernel
theorem dl_249 : decode code 249 = .ok (.invokevirtual 28, 3) := by decide +kernel
theorem dl_252 : decode code 252 = .ok (.aload_n 2, 1) := by decide +kernel
theorem dl_253 : decode code 253 = .ok (.aload_n 0, 1) := by decide +kernel
theorem dl_254 : decode code 254 = .ok (.iload_n 3, 1) := by decide +kernel
theorem dl_255 : decode code 255 = .ok (.iconst 1, 1) := by decide +kernel
theorem dl_256 : decode code 256 = .ok (.iadd, 1) := by decide +kernel
theorem dl_257 : decode code 257 = .ok (.iaload, 1) := by decide +kernel
theorem dl_258 : decode code 258 = .ok (.aload_n 0, 1) := by decide +kernel
theorem dl_259 : decode code 259 = .ok (.iload_n 3, 1) := by decide +kernel
theorem dl_260 : decode code 260 = .ok (.iconst 2, 1) := by decide +kernel
theorem dl_261 : decode code 261 = .ok (.iadd, 1) := by decide +kernel
theorem dl_262 : decode code 262 = .ok (.iaload, 1) := by decide +kernel
theorem dl_263 : decode code 263 = .ok (.aload_n 0, 1) := by decide +kernel
theorem dl_264 : decode code 264 = .ok (.iload_n 3, 1) := by decide +kernel
theorem dl_265 : decode code 265 = .ok (.iconst 3, 1) := by decide +kernel
theorem dl_266 : decode code 266 = .ok (.iadd, 1) := by decide +kernel
theorem dl_267 : decode code 267 = .ok (.iaload, 1) := by decide +kernel
theorem dl_268 : decode code 268 = .ok (.invokevirtual 31, 3) := by decide +kernel
theorem dl_271 : decode code 271 = .ok (.if_icmp .eq 390, 3) := by decide +kernel
theorem dl_274 : decode code 274 = .ok (.iconst 0, 1) := by decide +kernel
theorem dl_275 : decode code 275 = .ok (.ireturn, 1) := by decide +kernel
theorem dl_276 : decode code 276 = .ok (.aload_n 1, 1) := by decide +kernel
theorem dl_277 : decode code 277 = .ok (.aload_n 0, 1) := by decide +kernel
theorem dl_278 : decode code 278 = .ok (.iload_n 3, 1) := by decide +kernel
theorem dl_279 : decode code 279 = .ok (.iconst 1, 1) := by decide +kernel
theorem dl_280 : decode code 280 = .ok (.iadd, 1) := by decide +kernel
theorem dl_281 : decode code 281 = .ok (.iaload, 1) := by decide +kernel
theorem dl_282 : decode code 282 = .ok (.aload_n 0, 1) := by decide +kernel
theorem dl_283 : decode code 283 = .ok (.iload_n 3, 1) := by decide +kernel
theorem dl_284 : decode code 284 = .ok (.iconst 2, 1) := by decide +kernel
theorem dl_285 : decode code 285 = .ok (.iadd, 1) := by decide +kernel
theorem dl_286 : decode code 286 = .ok (.iaload, 1) := by decide +kernel
theorem dl_287 : decode code 287 = .ok (.aload_n 0, 1) := by decide +kernel
theorem dl_288 : decode code 288 = .ok (.iload_n 3, 1) := by decide +kernel
theorem dl_289 : decode code 289 = .ok (.iconst 3, 1) := by decide +kernel
theorem dl_290 : decode code 290 = .ok (.iadd, 1) := by decide +kernel
theorem dl_291 : decode code 291 = .ok (.iaload, 1) := by decide +kernel
theorem dl_292 : decode code 292 = .ok (.aload_n 0, 1) := by decide +kernel
theorem dl_293 : decode code 293 = .ok (.iload_n 3, 1) := by decide +kernel
theorem dl_294 : decode code 294 = .ok (.iconst 4, 1) := by decide +kernel
theorem dl_295 : decode code 295 = .ok (.iadd, 1) := by decide +kernel
theorem dl_296 : decode code 296 = .ok (.iaload, 1) := by decide +kernel
theorem dl_297 : decode code 297 = .ok (.invokevirtual 32, 3) := by decide +kernel
theorem dl_300 : decode code 300 = .ok (.aload_n 2, 1) := by decide +kernel
theorem dl_301 : decode code 301 = .ok (.aload_n 0, 1) := by decide +kernel
theorem dl_302 : decode code 302 = .ok (.iload_n 3, 1) := by decide +kernel
theorem dl_303 : decode code 303 = .ok (.iconst 1, 1) := by decide +kernel
theorem dl_304 : decode code 304 = .ok (.iadd, 1) := by decide +kernel
theorem dl_305 : decode code 305 = .ok (.iaload, 1) := by decide +kernel
theorem dl_306 : decode code 306 = .ok (.aload_n 0, 1) := by decide +kernel
theorem dl_307 : decode code 307 = .ok (.iload_n 3, 1) := by decide +kernel
theorem dl_308 : decode code 308 = .ok (.iconst 2, 1) := by decide +kernel
theorem dl_309 : decode code 309 = .ok (.iadd, 1) := by decide +kernel
theorem dl_310 : decode code 310 = .ok (.iaload, 1) := by decide +kernel
theorem dl_311 : decode code 311 = .ok (.aload_n 0, 1) := by decide +kernel
theorem dl_312 : decode code 312 = .ok (.iload_n 3, 1) := by decide +kernel
theorem dl_313 : decode code 313 = .ok (.iconst 3, 1) := by decide +kernel
theorem dl_314 : decode code 314 = .ok (.iadd, 1) := by decide +kernel
theorem dl_315 : decode code 315 = .ok (.iaload, 1) := by decide +kernel
theorem dl_316 : decode code 316 = .ok (.aload_n 0, 1) := by decide +kernel
theorem dl_317 : decode code 317 = .ok (.iload_n 3, 1) := by decide +kernel
theorem dl_318 : decode code 318 = .ok (.iconst 4, 1) := by decide +kernel
theorem dl_319 : decode code 319 = .ok (.iadd, 1) := by decide +kernel
theorem dl_320 : decode code 320 = .ok (.iaload, 1) := by decide +kernel
theorem dl_321 : decode code 321 = .ok (.invokevirtual 36, 3) := by decide +kernel
theorem dl_324 : decode code 324 = .ok (.if_icmp .eq 337, 3) := by decide +kernel
theorem dl_327 : decode code 327 = .ok (.iconst 0, 1) := by decide +kernel
theorem dl_328 : decode code 328 = .ok (.ireturn, 1) := by decide +kernel
theorem dl_329 : decode code 329 = .ok (.aload_n 1, 1) := by decide +kernel
theorem dl_330 : decode code 330 = .ok (.invokevirtual 37, 3) := by decide +kernel
theorem dl_333 : decode code 333 = .ok (.aload_n 2, 1) := by decide +kernel
theorem dl_334 : decode code 334 = .ok (.invokevirtual 41, 3) := by decide +kernel
theorem dl_337 : decode code 337 = .ok (.if_icmp .eq 324, 3) := by decide +kernel
theorem dl_340 : decode code 340 = .ok (.iconst 0, 1) := by decide +kernel
theorem dl_341 : decode code 341 = .ok (.ireturn, 1) := by decide +kernel
theorem dl_342 : decode code 342 = .ok (.aload_n 1, 1) := by decide +kernel
theorem dl_343 : decode code 343 = .ok (.aload_n 0, 1) := by decide +kernel
theorem dl_344 : decode code 344 = .ok (.iload_n 3, 1) := by decide +kernel
theorem dl_345 : decode code 345 = .ok (.iconst 1, 1) := by decide +kernel
theorem dl_346 : decode code 346 = .ok (.iadd, 1) := by decide +kernel
theorem dl_347 : decode code 347 = .ok (.iaload, 1) := by decide +kernel
theorem dl_348 : decode code 348 = .ok (.aload_n 0, 1) := by decide +kernel
theorem dl_349 : decode code 349 = .ok (.iload_n 3, 1) := by decide +kernel
theorem dl_350 : decode code 350 = .ok (.iconst 2, 1) := by decide +kernel
theorem dl_351 : decode code 351 = .ok (.iadd, 1) := by decide +kernel
theorem dl_352 : decode code 352 = .ok (.iaload, 1) := by decide +kernel
theorem dl_353 : decode code 353 = .ok (.aload_n 0, 1) := by decide +kernel
theorem dl_354 : decode code 354 = .ok (.iload_n 3, 1) := by decide +kernel
theorem dl_355 : decode code 355 = .ok (.iconst 3, 1) := by decide +kernel
theorem dl_356 : decode code 356 = .ok (.iadd, 1) := by decide +kernel
theorem dl_357 : decode code 357 = .ok (.iaload, 1) := by decide +kernel
theorem dl_358 : decode code 358 = .ok (.invokevirtual 42, 3) := by decide +kernel
theorem dl_361 : decode code 361 = .ok (.aload_n 2, 1) := by decide +kernel
theorem dl_362 : decode code 362 = .ok (.aload_n 0, 1) := by decide +kernel
theorem dl_363 : decode code 363 = .ok (.iload_n 3, 1) := by decide +kernel
theorem dl_364 : decode code 364 = .ok (.iconst 1, 1) := by decide +kernel
theorem dl_365 : decode code 365 = .ok (.iadd, 1) := by decide +kernel
theorem dl_366 : decode code 366 = .ok (.iaload, 1) := by decide +kernel
theorem dl_367 : decode code 367 = .ok (.aload_n 0, 1) := by decide +kernel
theorem dl_368 : decode code 368 = .ok (.iload_n 3, 1) := by decide +kernel
theorem dl_369 : decode code 369 = .ok (.iconst 2, 1) := by decide +kernel
theorem dl_370 : decode code 370 = .ok (.iadd, 1) := by decide +kernel
theorem dl_371 : decode code 371 = .ok (.iaload, 1) := by decide +kernel
theorem dl_372 : decode code 372 = .ok (.aload_n 0, 1) := by decide +kernel
theorem dl_373 : decode code 373 = .ok (.iload_n 3, 1) := by decide +kernel
theorem dl_374 : decode code 374 = .ok (.iconst 3, 1) := by decide +kernel
theorem dl_375 : decode code 375 = .ok (.iadd, 1) := by decide +kernel
theorem dl_376 : decode code 376 = .ok (.iaload, 1) := by decide +kernel
theorem dl_377 : decode code 377 = .ok (.invokevirtual 45, 3) := by decide +kernel
theorem dl_380 : decode code 380 = .ok (.if_icmp .eq 281, 3) := by decide +kernel
theorem dl_383 : decode code 383 = .ok (.iconst 0, 1) := by decide +kernel
theorem dl_384 : decode code 384 = .ok (.ireturn, 1) := by decide +kernel
theorem dl_385 : decode code 385 = .ok (.aload_n 1, 1) := by decide +kernel
theorem dl_386 : decode code 386 = .ok (.aload_n 0, 1) := by decide +kernel
theorem dl_387 : decode code 387 = .ok (.iload_n 3, 1) := by decide +kernel
theorem dl_388 : decode code 388 = .ok (.iconst 1, 1) := by decide +kernel
theorem dl_389 : decode code 389 = .ok (.iadd, 1) := by decide +kernel
theorem dl_390 : decode code 390 = .ok (.iaload, 1) := by decide +kernel
theorem dl_391 : decode code 391 = .ok (.aload_n 0, 1) := by decide +kernel
theorem dl_392 : decode code 392 = .ok (.iload_n 3, 1) := by decide +kernel
theorem dl_393 : decode code 393 = .ok (.iconst 2, 1) := by decide +kernel
theorem dl_394 : decode code 394 = .ok (.iadd, 1) := by decide +kernel
theorem dl_395 : decode code 395 = .ok (.iaload, 1) := by decide +kernel
theorem dl_396 : decode code 396 = .ok (.invokevirtual 46, 3) := by decide +kernel
theorem dl_399 : decode code 399 = .ok (.aload_n 2, 1) := by decide +kernel
theorem dl_400 : decode code 400 = .ok (.aload_n 0, 1) := by decide +kernel
theorem dl_401 : decode code 401 = .ok (.iload_n 3, 1) := by decide +kernel
theorem dl_402 : decode code 402 = .ok (.iconst 1, 1) := by decide +kernel
theorem dl_403 : decode code 403 = .ok (.iadd, 1) := by decide +kernel
theorem dl_404 : decode code 404 = .ok (.iaload, 1) := by decide +kernel
theorem dl_405 : decode code 405 = .ok (.aload_n 0, 1) := by decide +kernel
theorem dl_406 : decode code 406 = .ok (.iload_n 3, 1) := by decide +kernel
theorem dl_407 : decode code 407 = .ok (.iconst 2, 1) := by decide +kernel
theorem dl_408 : decode code 408 = .ok (.iadd, 1) := by decide +kernel
theorem dl_409 : decode code 409 = .ok (.iaload, 1) := by decide +kernel
theorem dl_410 : decode code 410 = .ok (.invokevirtual 49, 3) := by decide +kernel
theorem dl_413 : decode code 413 = .ok (.if_icmp .eq 248, 3) := by decide +kernel
theorem dl_416 : decode code 416 = .ok (.iconst 0, 1) := by decide +kernel
theorem dl_417 : decode code 417 = .ok (.ireturn, 1) := by decide +kernel
theorem dl_418 : decode code 418 = .ok (.aload_n 1, 1) := by decide +kernel
theorem dl_419 : decode code 419 = .ok (.aload_n 0, 1) := by decide +kernel
theorem dl_420 : decode code 420 = .ok (.iload_n 3, 1) := by decide +kernel
theorem dl_421 : decode code 421 = .ok (.iconst 1, 1) := by decide +kernel
theorem dl_422 : decode code 422 = .ok (.iadd, 1) := by decide +kernel
theorem dl_423 : decode code 423 = .ok (.iaload, 1) := by decide +kernel
theorem dl_424 : decode code 424 = .ok (.aload_n 0, 1) := by decide +kernel
theorem dl_425 : decode code 425 = .ok (.iload_n 3, 1) := by decide +kernel
theorem dl_426 : decode code 426 = .ok (.iconst 2, 1) := by decide +kernel
theorem dl_427 : decode code 427 = .ok (.iadd, 1) := by decide +kernel
theorem dl_428 : decode code 428 = .ok (.iaload, 1) := by decide +kernel
theorem dl_429 : decode code 429 = .ok (.invokevirtual 50, 3) := by decide +kernel
theorem dl_432 : decode code 432 = .ok (.aload_n 2, 1) := by decide +kernel
theorem dl_433 : decode code 433 = .ok (.aload_n 0, 1) := by decide +kernel
theorem dl_434 : decode code 434 = .ok (.iload_n 3, 1) := by decide +kernel
theorem dl_435 : decode code 435 = .ok (.iconst 1, 1) := by decide +kernel
theorem dl_436 : decode code 436 = .ok (.iadd, 1) := by decide +kernel
theorem dl_437 : decode code 437 = .ok (.iaload, 1) := by decide +kernel
theorem dl_438 : decode code 438 = .ok (.aload_n 0, 1) := by decide +kernel
theorem dl_439 : decode code 439 = .ok (.iload_n 3, 1) := by decide +kernel
theorem dl_440 : decode code 440 = .ok (.iconst 2, 1) := by decide +kernel
theorem dl_441 : decode code 441 = .ok (.iadd, 1) := by decide +kernel
theorem dl_442 : decode code 442 = .ok (.iaload, 1) := by decide +kernel
theorem dl_443 : decode code 443 = .ok (.invokevirtual 53, 3) := by decide +kernel
theorem dl_446 : decode code 446 = .ok (.if_icmp .eq 215, 3) := by decide +kernel
theorem dl_449 : decode code 449 = .ok (.iconst 0, 1) := by decide +kernel
theorem dl_450 : decode code 450 = .ok (.ireturn, 1) := by decide +kernel
theorem dl_451 : decode code 451 = .ok (.aload_n 1, 1) := by decide +kernel
theorem dl_452 : decode code 452 = .ok (.aload_n 0, 1) := by decide +kernel
theorem dl_453 : decode code 453 = .ok (.iload_n 3, 1) := by decide +kernel
theorem dl_454 : decode code 454 = .ok (.iconst 1, 1) := by decide +kernel
theorem dl_455 : decode code 455 = .ok (.iadd, 1) := by decide +kernel
theorem dl_456 : decode code 456 = .ok (.iaload, 1) := by decide +kernel
theorem dl_457 : decode code 457 = .ok (.invokevirtual 54, 3) := by decide +kernel
theorem dl_460 : decode code 460 = .ok (.aload_n 2, 1) := by decide +kernel
theorem dl_461 : decode code 461 = .ok (.aload_n 0, 1) := by decide +kernel
theorem dl_462 : decode code 462 = .ok (.iload_n 3, 1) := by decide +kernel
theorem dl_463 : decode code 463 = .ok (.iconst 1, 1) := by decide +kernel
theorem dl_464 : decode code 464 = .ok (.iadd, 1) := by decide +kernel
theorem dl_465 : decode code 465 = .ok (.iaload, 1) := by decide +kernel
theorem dl_466 : decode code 466 = .ok (.invokevirtual 58, 3) := by decide +kernel
theorem dl_469 : decode code 469 = .ok (.if_icmp .eq 192, 3) := by decide +kernel
theorem dl_472 : decode code 472 = .ok (.iconst 0, 1) := by decide +kernel
theorem dl_473 : decode code 473 = .ok (.ireturn, 1) := by decide +kernel
theorem dl_474 : decode code 474 = .ok (.aload_n 1, 1) := by decide +kernel
theorem dl_475 : decode code 475 = .ok (.aload_n 0, 1) := by decide +kernel
theorem dl_476 : decode code 476 = .ok (.iload_n 3, 1) := by decide +kernel
theorem dl_477 : decode code 477 = .ok (.iconst 1, 1) := by decide +kernel
theorem dl_478 : decode code 478 = .ok (.iadd, 1) := by decide +kernel
theorem dl_479 : decode code 479 = .ok (.iaload, 1) := by decide +kernel
theorem dl_480 : decode code 480 = .ok (.aload_n 0, 1) := by decide +kernel
theorem dl_481 : decode code 481 = .ok (.iload_n 3, 1) := by decide +kernel
theorem dl_482 : decode code 482 = .ok (.iconst 2, 1) := by decide +kernel
theorem dl_483 : decode code 483 = .ok (.iadd, 1) := by decide +kernel
theorem dl_484 : decode code 484 = .ok (.iaload, 1) := by decide +kernel
theorem dl_485 : decode code 485 = .ok (.invokevirtual 59, 3) := by decide +kernel
theorem dl_488 : decode code 488 = .ok (.aload_n 2, 1) := by decide +kernel
theorem dl_489 : decode code 489 = .ok (.aload_n 0, 1) := by decide +kernel
theorem dl_490 : decode code 490 = .ok (.iload_n 3, 1) := by decide +kernel
theorem dl_491 : decode code 491 = .ok (.iconst 1, 1) := by decide +kernel
theorem dl_492 : decode code 492 = .ok (.iadd, 1) := by decide +kernel
theorem dl_493 : decode code 493 = .ok (.iaload, 1) := by decide +kernel
theorem dl_494 : decode code 494 = .ok (.aload_n 0, 1) := by decide +kernel
theorem dl_495 : decode code 495 = .ok (.iload_n 3, 1) := by decide +kernel
theorem dl_496 : decode code 496 = .ok (.iconst 2, 1) := by decide +kernel
theorem dl_497 : decode code 497 = .ok (.iadd, 1) := by decide +kernel
theorem dl_498 : decode code 498 = .ok (.iaload, 1) := by decide +kernel
theorem dl_499 : decode code 499 = .ok (.invokevirtual 62, 3) := by decide +kernel
theorem dl_502 : decode code 502 = .ok (.if_icmp .eq 159, 3) := by decide +kernel
theorem dl_505 : decode code 505 = .ok (.iconst 0, 1) := by decide +kernel
theorem dl_506 : decode code 506 = .ok (.ireturn, 1) := by decide +kernel
theorem dl_507 : decode code 507 = .ok (.aload_n 1, 1) := by decide +kernel
theorem dl_508 : decode code 508 = .ok (.aload_n 0, 1) := by decide +kernel
theorem dl_509 : decode code 509 = .ok (.iload_n 3, 1) := by decide +kernel
theorem dl_510 : decode code 510 = .ok (.iconst 1, 1) := by decide +kernel
theorem dl_511 : decode code 511 = .ok (.iadd, 1) := by decide +kernel
theorem dl_512 : decode code 512 = .ok (.iaload, 1) := by decide +kernel
theorem dl_513 : decode code 513 = .ok (.aload_n 0, 1) := by decide +kernel
theorem dl_514 : decode code 514 = .ok (.iload_n 3, 1) := by decide +kernel
theorem dl_515 : decode code 515 = .ok (.iconst 2, 1) := by decide +kernel
theorem dl_516 : decode code 516 = .ok (.iadd, 1) := by decide +kernel
theorem dl_517 : decode code 517 = .ok (.iaload, 1) := by decide +kernel
theorem dl_518 : decode code 518 = .ok (.invokevirtual 63, 3) := by decide +kernel
theorem dl_521 : decode code 521 = .ok (.aload_n 2, 1) := by decide +kernel
theorem dl_522 : decode code 522 = .ok (.aload_n 0, 1) := by decide +kernel
theorem dl_523 : decode code 523 = .ok (.iload_n 3, 1) := by decide +kernel
theorem dl_524 : decode code 524 = .ok (.iconst 1, 1) := by decide +kernel
theorem dl_525 : decode code 525 = .ok (.iadd, 1) := by decide +kernel
theorem dl_526 : decode code 526 = .ok (.iaload, 1) := by decide +kernel
theorem dl_527 : decode code 527 = .ok (.aload_n 0, 1) := by decide +kernel
theorem dl_528 : decode code 528 = .ok (.iload_n 3, 1) := by decide +kernel
theorem dl_529 : decode code 529 = .ok (.iconst 2, 1) := by decide +kernel
theorem dl_530 : decode code 530 = .ok (.iadd, 1) := by decide +kernel
theorem dl_531 : decode code 531 = .ok (.iaload, 1) := by decide +kernel
theorem dl_532 : decode code 532 = .ok (.invokevirtual 66, 3) := by decide +kernel
theorem dl_535 : decode code 535 = .ok (.if_icmp .eq 126, 3) := by decide +kernel
theorem dl_538 : decode code 538 = .ok (.iconst 0, 1) := by decide +kernel
theorem dl_539 : decode code 539 = .ok (.ireturn, 1) := by decide +kernel
theorem dl_540 : decode code 540 = .ok (.aload_n 1, 1) := by decide +kernel
theorem dl_541 : decode code 541 = .ok (.invokevirtual 67, 3) := by decide +kernel
theorem dl_544 : decode code 544 = .ok (.aload_n 2, 1) := by decide +kernel
theorem dl_545 : decode code 545 = .ok (.invokevirtual 70, 3) := by decide +kernel
theorem dl_548 : decode code 548 = .ok (.if_icmp .eq 113, 3) := by decide +kernel
theorem dl_551 : decode code 551 = .ok (.iconst 0, 1) := by decide +kernel
theorem dl_552 : decode code 552 = .ok (.ireturn, 1) := by decide +kernel
theorem dl_553 : decode code 553 = .ok (.aload_n 1, 1) := by decide +kernel
theorem dl_554 : decode code 554 = .ok (.invokevirtual 71, 3) := by decide +kernel
theorem dl_557 : decode code 557 = .ok (.aload_n 2, 1) := by decide +kernel
theorem dl_558 : decode code 558 = .ok (.invokevirtual 74, 3) := by decide +kernel
theorem dl_561 : decode code 561 = .ok (.if_icmp .eq 100, 3) := by decide +kernel
theorem dl_564 : decode code 564 = .ok (.iconst 0, 1) := by decide +kernel
theorem dl_565 : decode code 565 = .ok (.ireturn, 1) := by decide +kernel
theorem dl_566 : decode code 566 = .ok (.aload_n 1, 1) := by decide +kernel
theorem dl_567 : decode code 567 = .ok (.invokevirtual 75, 3) := by decide +kernel
theorem dl_570 : decode code 570 = .ok (.aload_n 2, 1) := by decide +kernel
theorem dl_571 : decode code 571 = .ok (.invokevirtual 78, 3) := by decide +kernel
theorem dl_574 : decode code 574 = .ok (.if_icmp .eq 87, 3) := by decide +kernel
theorem dl_577 : decode code 577 = .ok (.iconst 0, 1) := by decide +kernel
theorem dl_578 : decode code 578 = .ok (.ireturn, 1) := by decide +kernel
theorem dl_579 : decode code 579 = .ok (.aload_n 1, 1) := by decide +kernel
theorem dl_580 : decode code 580 = .ok (.aload_n 0, 1) := by decide +kernel
theorem dl_581 : decode code 581 = .ok (.iload_n 3, 1) := by decide +kernel
theorem dl_582 : decode code 582 = .ok (.iconst 1, 1) := by decide +kernel
theorem dl_583 : decode code 583 = .ok (.iadd, 1) := by decide +kernel
theorem dl_584 : decode code 584 = .ok (.iaload, 1) := by decide +kernel
theorem dl_585 : decode code 585 = .ok (.invokevirtual 79, 3) := by decide +kernel
theorem dl_588 : decode code 588 = .ok (.aload_n 2, 1) := by decide +kernel
theorem dl_589 : decode code 589 = .ok (.aload_n 0, 1) := by decide +kernel
theorem dl_590 : decode code 590 = .ok (.iload_n 3, 1) := by decide +kernel
theorem dl_591 : decode code 591 = .ok (.iconst 1, 1) := by decide +kernel
theorem dl_592 : decode code 592 = .ok (.iadd, 1) := by decide +kernel
theorem dl_593 : decode code 593 = .ok (.iaload, 1) := by decide +kernel
theorem dl_594 : decode code 594 = .ok (.invokevirtual 83, 3) := by decide +kernel
theorem dl_597 : decode code 597 = .ok (.if_icmp .eq 64, 3) := by decide +kernel
theorem dl_600 : decode code 600 = .ok (.iconst 0, 1) := by decide +kernel
theorem dl_601 : decode code 601 = .ok (.ireturn, 1) := by decide +kernel
theorem dl_602 : decode code 602 = .ok (.aload_n 1, 1) := by decide +kernel
theorem dl_603 : decode code 603 = .ok (.aload_n 0, 1) := by decide +kernel
theorem dl_604 : decode code 604 = .ok (.iload_n 3, 1) := by decide +kernel
theorem dl_605 : decode code 605 = .ok (.iconst 1, 1) := by decide +kernel
theorem dl_606 : decode code 606 = .ok (.iadd, 1) := by decide +kernel
theorem dl_607 : decode code 607 = .ok (.iaload, 1) := by decide +kernel
theorem dl_608 : decode code 608 = .ok (.invokevirtual 84, 3) := by decide +kernel
theorem dl_611 : decode code 611 = .ok (.aload_n 2, 1) := by decide +kernel
theorem dl_612 : decode code 612 = .ok (.aload_n 0, 1) := by decide +kernel
theorem dl_613 : decode code 613 = .ok (.iload_n 3, 1) := by decide +kernel
theorem dl_614 : decode code 614 = .ok (.iconst 1, 1) := by decide +kernel
theorem dl_615 : decode code 615 = .ok (.iadd, 1) := by decide +kernel
theorem dl_616 : decode code 616 = .ok (.iaload, 1) := by decide +kernel
theorem dl_617 : decode code 617 = .ok (.invokevirtual 87, 3) := by decide +kernel
theorem dl_620 : decode code 620 = .ok (.if_icmp .eq 41, 3) := by decide +kernel
theorem dl_623 : decode code 623 = .ok (.iconst 0, 1) := by decide +kernel
theorem dl_624 : decode code 624 = .ok (.ireturn, 1) := by decide +kernel
theorem dl_625 : decode code 625 = .ok (.aload_n 1, 1) := by decide +kernel
theorem dl_626 : decode code 626 = .ok (.invokevirtual 88, 3) := by decide +kernel
theorem dl_629 : decode code 629 = .ok (.aload_n 2, 1) := by decide +kernel
theorem dl_630 : decode code 630 = .ok (.invokevirtual 91, 3) := by decide +kernel
theorem dl_633 : decode code 633 = .ok (.if_icmp .eq 28, 3) := by decide +kernel
theorem dl_636 : decode code 636 = .ok (.iconst 0, 1) := by decide +kernel
theorem dl_637 : decode code 637 = .ok (.ireturn, 1) := by decide +kernel
theorem dl_638 : decode code 638 = .ok (.aload_n 1, 1) := by decide +kernel
theorem dl_639 : decode code 639 = .ok (.aload_n 0, 1) := by decide +kernel
theorem dl_640 : decode code 640 = .ok (.iload_n 3, 1) := by decide +kernel
theorem dl_641 : decode code 641 = .ok (.iconst 1, 1) := by decide +kernel
theorem dl_642 : decode code 642 = .ok (.iadd, 1) := by decide +kernel
theorem dl_643 : decode code 643 = .ok (.iaload, 1) := by decide +kernel
theorem dl_644 : decode code 644 = .ok (.invokevirtual 92, 3) := by decide +kernel
theorem dl_647 : decode code 647 = .ok (.aload_n 2, 1) := by decide +kernel
theorem dl_648 : decode code 648 = .ok (.aload_n 0, 1) := by decide +kernel
theorem dl_649 : decode code 649 = .ok (.iload_n 3, 1) := by decide +kernel
theorem dl_650 : decode code 650 = .ok (.iconst 1, 1) := by decide +kernel
theorem dl_651 : decode code 651 = .ok (.iadd, 1) := by decide +kernel
theorem dl_652 : decode code 652 = .ok (.iaload, 1) := by decide +kernel
theorem dl_653 : decode code 653 = .ok (.invokevirtual 95, 3) := by decide +kernel
theorem dl_656 : decode code 656 = .ok (.if_icmp .eq 5, 3) := by decide +kernel
theorem dl_659 : decode code 659 = .ok (.iconst 0, 1) := by decide +kernel
theorem dl_660 : decode code 660 = .ok (.ireturn, 1) := by decide +kernel
theorem dl_661 : decode code 661 = .ok (.iinc 3 5, 3) := by decide +kernel
theorem dl_664 : decode code 664 = .ok (.goto (-646), 3) := by decide +kernel
theorem dl_667 : decode code 667 = .ok (.iconst 1, 1) := by decide +kernel
theorem dl_668 : decode code 668 = .ok (.ireturn, 1) := by decide +kernel

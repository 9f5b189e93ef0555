theorem dL_law_0 : decode code 0 = .ok (.new 7, 3) := by decide +kernel
theorem dL_law_3 : decode code 3 = .ok (.dup, 1) := by decide +kernel
theorem dL_law_4 : decode code 4 = .ok (.aload_n 0, 1) := by decide +kernel
theorem dL_law_5 : decode code 5 = .ok (.iconst 0, 1) := by decide +kernel
theorem dL_law_6 : decode code 6 = .ok (.invokestatic 9, 3) := by decide +kernel
theorem dL_law_9 : decode code 9 = .ok (.invokespecial 15, 3) := by decide +kernel
theorem dL_law_12 : decode code 12 = .ok (.astore_n 1, 1) := by decide +kernel
theorem dL_law_13 : decode code 13 = .ok (.new 18, 3) := by decide +kernel
theorem dL_law_16 : decode code 16 = .ok (.dup, 1) := by decide +kernel
theorem dL_law_17 : decode code 17 = .ok (.aload_n 0, 1) := by decide +kernel
theorem dL_law_18 : decode code 18 = .ok (.iconst 0, 1) := by decide +kernel
theorem dL_law_19 : decode code 19 = .ok (.invokestatic 9, 3) := by decide +kernel
theorem dL_law_22 : decode code 22 = .ok (.invokespecial 20, 3) := by decide +kernel
theorem dL_law_25 : decode code 25 = .ok (.astore_n 2, 1) := by decide +kernel
theorem dL_law_26 : decode code 26 = .ok (.iconst 1, 1) := by decide +kernel
theorem dL_law_27 : decode code 27 = .ok (.istore_n 3, 1) := by decide +kernel
theorem dL_law_28 : decode code 28 = .ok (.iload_n 3, 1) := by decide +kernel
theorem dL_law_29 : decode code 29 = .ok (.aload_n 0, 1) := by decide +kernel
theorem dL_law_30 : decode code 30 = .ok (.arraylength, 1) := by decide +kernel
theorem dL_law_31 : decode code 31 = .ok (.iconst 4, 1) := by decide +kernel
theorem dL_law_32 : decode code 32 = .ok (.isub, 1) := by decide +kernel
theorem dL_law_33 : decode code 33 = .ok (.if_icmp .gt 548, 3) := by decide +kernel
theorem dL_law_36 : decode code 36 = .ok (.aload_n 0, 1) := by decide +kernel
theorem dL_law_37 : decode code 37 = .ok (.iload_n 3, 1) := by decide +kernel
theorem dL_law_38 : decode code 38 = .ok (.iaload, 1) := by decide +kernel
theorem dL_law_39 : decode code 39 = .ok (.bipush 31, 2) := by decide +kernel
theorem dL_law_41 : decode code 41 = .ok (.iand, 1) := by decide +kernel
theorem dL_law_42 : decode code 42 = .ok (.tableswitch 533 0 16 #[82, 115, 148, 181, 214, 237, 260, 283, 296, 319, 342, 385, 418, 441, 464, 487, 500], 82) := by decide +kernel
theorem dL_law_124 : decode code 124 = .ok (.aload_n 1, 1) := by decide +kernel
theorem dL_law_125 : decode code 125 = .ok (.aload_n 0, 1) := by decide +kernel
theorem dL_law_126 : decode code 126 = .ok (.iload_n 3, 1) := by decide +kernel
theorem dL_law_127 : decode code 127 = .ok (.iconst 1, 1) := by decide +kernel
theorem dL_law_128 : decode code 128 = .ok (.iadd, 1) := by decide +kernel
theorem dL_law_129 : decode code 129 = .ok (.iaload, 1) := by decide +kernel
theorem dL_law_130 : decode code 130 = .ok (.aload_n 0, 1) := by decide +kernel
theorem dL_law_131 : decode code 131 = .ok (.iload_n 3, 1) := by decide +kernel
theorem dL_law_132 : decode code 132 = .ok (.iconst 2, 1) := by decide +kernel
theorem dL_law_133 : decode code 133 = .ok (.iadd, 1) := by decide +kernel
theorem dL_law_134 : decode code 134 = .ok (.iaload, 1) := by decide +kernel
theorem dL_law_135 : decode code 135 = .ok (.invokevirtual 21, 3) := by decide +kernel
theorem dL_law_138 : decode code 138 = .ok (.aload_n 2, 1) := by decide +kernel
theorem dL_law_139 : decode code 139 = .ok (.aload_n 0, 1) := by decide +kernel
theorem dL_law_140 : decode code 140 = .ok (.iload_n 3, 1) := by decide +kernel
theorem dL_law_141 : decode code 141 = .ok (.iconst 1, 1) := by decide +kernel
theorem dL_law_142 : decode code 142 = .ok (.iadd, 1) := by decide +kernel
theorem dL_law_143 : decode code 143 = .ok (.iaload, 1) := by decide +kernel
theorem dL_law_144 : decode code 144 = .ok (.aload_n 0, 1) := by decide +kernel
theorem dL_law_145 : decode code 145 = .ok (.iload_n 3, 1) := by decide +kernel
theorem dL_law_146 : decode code 146 = .ok (.iconst 2, 1) := by decide +kernel
theorem dL_law_147 : decode code 147 = .ok (.iadd, 1) := by decide +kernel
theorem dL_law_148 : decode code 148 = .ok (.iaload, 1) := by decide +kernel
theorem dL_law_149 : decode code 149 = .ok (.invokevirtual 25, 3) := by decide +kernel
theorem dL_law_152 : decode code 152 = .ok (.if_icmp .eq 423, 3) := by decide +kernel
theorem dL_law_155 : decode code 155 = .ok (.iconst 0, 1) := by decide +kernel
theorem dL_law_156 : decode code 156 = .ok (.ireturn, 1) := by decide +kernel
theorem dL_law_157 : decode code 157 = .ok (.aload_n 1, 1) := by decide +kernel
theorem dL_law_158 : decode code 158 = .ok (.aload_n 0, 1) := by decide +kernel
theorem dL_law_159 : decode code 159 = .ok (.iload_n 3, 1) := by decide +kernel
theorem dL_law_160 : decode code 160 = .ok (.iconst 1, 1) := by decide +kernel
theorem dL_law_161 : decode code 161 = .ok (.iadd, 1) := by decide +kernel
theorem dL_law_162 : decode code 162 = .ok (.iaload, 1) := by decide +kernel
theorem dL_law_163 : decode code 163 = .ok (.aload_n 0, 1) := by decide +kernel
theorem dL_law_164 : decode code 164 = .ok (.iload_n 3, 1) := by decide +kernel
theorem dL_law_165 : decode code 165 = .ok (.iconst 2, 1) := by decide +kernel
theorem dL_law_166 : decode code 166 = .ok (.iadd, 1) := by decide +kernel
theorem dL_law_167 : decode code 167 = .ok (.iaload, 1) := by decide +kernel
theorem dL_law_168 : decode code 168 = .ok (.invokevirtual 26, 3) := by decide +kernel
theorem dL_law_171 : decode code 171 = .ok (.aload_n 2, 1) := by decide +kernel
theorem dL_law_172 : decode code 172 = .ok (.aload_n 0, 1) := by decide +kernel
theorem dL_law_173 : decode code 173 = .ok (.iload_n 3, 1) := by decide +kernel
theorem dL_law_174 : decode code 174 = .ok (.iconst 1, 1) := by decide +kernel
theorem dL_law_175 : decode code 175 = .ok (.iadd, 1) := by decide +kernel
theorem dL_law_176 : decode code 176 = .ok (.iaload, 1) := by decide +kernel
theorem dL_law_177 : decode code 177 = .ok (.aload_n 0, 1) := by decide +kernel
theorem dL_law_178 : decode code 178 = .ok (.iload_n 3, 1) := by decide +kernel
theorem dL_law_179 : decode code 179 = .ok (.iconst 2, 1) := by decide +kernel
theorem dL_law_180 : decode code 180 = .ok (.iadd, 1) := by decide +kernel
theorem dL_law_181 : decode code 181 = .ok (.iaload, 1) := by decide +kernel
theorem dL_law_182 : decode code 182 = .ok (.invokevirtual 29, 3) := by decide +kernel
theorem dL_law_185 : decode code 185 = .ok (.if_icmp .eq 390, 3) := by decide +kernel
theorem dL_law_188 : decode code 188 = .ok (.iconst 0, 1) := by decide +kernel
theorem dL_law_189 : decode code 189 = .ok (.ireturn, 1) := by decide +kernel
theorem dL_law_190 : decode code 190 = .ok (.aload_n 1, 1) := by decide +kernel
theorem dL_law_191 : decode code 191 = .ok (.aload_n 0, 1) := by decide +kernel
theorem dL_law_192 : decode code 192 = .ok (.iload_n 3, 1) := by decide +kernel
theorem dL_law_193 : decode code 193 = .ok (.iconst 1, 1) := by decide +kernel
theorem dL_law_194 : decode code 194 = .ok (.iadd, 1) := by decide +kernel
theorem dL_law_195 : decode code 195 = .ok (.iaload, 1) := by decide +kernel
theorem dL_law_196 : decode code 196 = .ok (.aload_n 0, 1) := by decide +kernel
theorem dL_law_197 : decode code 197 = .ok (.iload_n 3, 1) := by decide +kernel
theorem dL_law_198 : decode code 198 = .ok (.iconst 2, 1) := by decide +kernel
theorem dL_law_199 : decode code 199 = .ok (.iadd, 1) := by decide +kernel
theorem dL_law_200 : decode code 200 = .ok (.iaload, 1) := by decide +kernel
theorem dL_law_201 : decode code 201 = .ok (.invokevirtual 30, 3) := by decide +kernel
theorem dL_law_204 : decode code 204 = .ok (.aload_n 2, 1) := by decide +kernel
theorem dL_law_205 : decode code 205 = .ok (.aload_n 0, 1) := by decide +kernel
theorem dL_law_206 : decode code 206 = .ok (.iload_n 3, 1) := by decide +kernel
theorem dL_law_207 : decode code 207 = .ok (.iconst 1, 1) := by decide +kernel
theorem dL_law_208 : decode code 208 = .ok (.iadd, 1) := by decide +kernel
theorem dL_law_209 : decode code 209 = .ok (.iaload, 1) := by decide +kernel
theorem dL_law_210 : decode code 210 = .ok (.aload_n 0, 1) := by decide +kernel
theorem dL_law_211 : decode code 211 = .ok (.iload_n 3, 1) := by decide +kernel
theorem dL_law_212 : decode code 212 = .ok (.iconst 2, 1) := by decide +kernel
theorem dL_law_213 : decode code 213 = .ok (.iadd, 1) := by decide +kernel
theorem dL_law_214 : decode code 214 = .ok (.iaload, 1) := by decide +kernel
theorem dL_law_215 : decode code 215 = .ok (.invokevirtual 33, 3) := by decide +kernel
theorem dL_law_218 : decode code 218 = .ok (.if_icmp .eq 357, 3) := by decide +kernel
theorem dL_law_221 : decode code 221 = .ok (.iconst 0, 1) := by decide +kernel
theorem dL_law_222 : decode code 222 = .ok (.ireturn, 1) := by decide +kernel
theorem dL_law_223 : decode code 223 = .ok (.aload_n 1, 1) := by decide +kernel
theorem dL_law_224 : decode code 224 = .ok (.aload_n 0, 1) := by decide +kernel
theorem dL_law_225 : decode code 225 = .ok (.iload_n 3, 1) := by decide +kernel
theorem dL_law_226 : decode code 226 = .ok (.iconst 1, 1) := by decide +kernel
theorem dL_law_227 : decode code 227 = .ok (.iadd, 1) := by decide +kernel
theorem dL_law_228 : decode code 228 = .ok (.iaload, 1) := by decide +kernel
theorem dL_law_229 : decode code 229 = .ok (.aload_n 0, 1) := by decide +kernel
theorem dL_law_230 : decode code 230 = .ok (.iload_n 3, 1) := by decide +kernel
theorem dL_law_231 : decode code 231 = .ok (.iconst 2, 1) := by decide +kernel
theorem dL_law_232 : decode code 232 = .ok (.iadd, 1) := by decide +kernel
theorem dL_law_233 : decode code 233 = .ok (.iaload, 1) := by decide +kernel
theorem dL_law_234 : decode code 234 = .ok (.invokevirtual 34, 3) := by decide +kernel
theorem dL_law_237 : decode code 237 = .ok (.aload_n 2, 1) := by decide +kernel
theorem dL_law_238 : decode code 238 = .ok (.aload_n 0, 1) := by decide +kernel
theorem dL_law_239 : decode code 239 = .ok (.iload_n 3, 1) := by decide +kernel
theorem dL_law_240 : decode code 240 = .ok (.iconst 1, 1) := by decide +kernel
theorem dL_law_241 : decode code 241 = .ok (.iadd, 1) := by decide +kernel
theorem dL_law_242 : decode code 242 = .ok (.iaload, 1) := by decide +kernel
theorem dL_law_243 : decode code 243 = .ok (.aload_n 0, 1) := by decide +kernel
theorem dL_law_244 : decode code 244 = .ok (.iload_n 3, 1) := by decide +kernel
theorem dL_law_245 : decode code 245 = .ok (.iconst 2, 1) := by decide +kernel
theorem dL_law_246 : decode code 246 = .ok (.iadd, 1) := by decide +kernel
theorem dL_law_247 : decode code 247 = .ok (.iaload, 1) := by decide +kernel
theorem dL_law_248 : decode code 248 = .ok (.invokevirtual 37, 3) := by decide +kernel
theorem dL_law_251 : decode code 251 = .ok (.if_icmp .eq 324, 3) := by decide +kernel
theorem dL_law_254 : decode code 254 = .ok (.iconst 0, 1) := by decide +kernel
theorem dL_law_255 : decode code 255 = .ok (.ireturn, 1) := by decide +kernel
theorem dL_law_256 : decode code 256 = .ok (.aload_n 1, 1) := by decide +kernel
theorem dL_law_257 : decode code 257 = .ok (.aload_n 0, 1) := by decide +kernel
theorem dL_law_258 : decode code 258 = .ok (.iload_n 3, 1) := by decide +kernel
theorem dL_law_259 : decode code 259 = .ok (.iconst 1, 1) := by decide +kernel
theorem dL_law_260 : decode code 260 = .ok (.iadd, 1) := by decide +kernel
theorem dL_law_261 : decode code 261 = .ok (.iaload, 1) := by decide +kernel
theorem dL_law_262 : decode code 262 = .ok (.invokevirtual 38, 3) := by decide +kernel
theorem dL_law_265 : decode code 265 = .ok (.aload_n 2, 1) := by decide +kernel
theorem dL_law_266 : decode code 266 = .ok (.aload_n 0, 1) := by decide +kernel
theorem dL_law_267 : decode code 267 = .ok (.iload_n 3, 1) := by decide +kernel
theorem dL_law_268 : decode code 268 = .ok (.iconst 1, 1) := by decide +kernel
theorem dL_law_269 : decode code 269 = .ok (.iadd, 1) := by decide +kernel
theorem dL_law_270 : decode code 270 = .ok (.iaload, 1) := by decide +kernel
theorem dL_law_271 : decode code 271 = .ok (.invokevirtual 42, 3) := by decide +kernel
theorem dL_law_274 : decode code 274 = .ok (.if_icmp .eq 301, 3) := by decide +kernel
theorem dL_law_277 : decode code 277 = .ok (.iconst 0, 1) := by decide +kernel
theorem dL_law_278 : decode code 278 = .ok (.ireturn, 1) := by decide +kernel
theorem dL_law_279 : decode code 279 = .ok (.aload_n 1, 1) := by decide +kernel
theorem dL_law_280 : decode code 280 = .ok (.aload_n 0, 1) := by decide +kernel
theorem dL_law_281 : decode code 281 = .ok (.iload_n 3, 1) := by decide +kernel
theorem dL_law_282 : decode code 282 = .ok (.iconst 1, 1) := by decide +kernel
theorem dL_law_283 : decode code 283 = .ok (.iadd, 1) := by decide +kernel
theorem dL_law_284 : decode code 284 = .ok (.iaload, 1) := by decide +kernel
theorem dL_law_285 : decode code 285 = .ok (.invokevirtual 43, 3) := by decide +kernel
theorem dL_law_288 : decode code 288 = .ok (.aload_n 2, 1) := by decide +kernel
theorem dL_law_289 : decode code 289 = .ok (.aload_n 0, 1) := by decide +kernel
theorem dL_law_290 : decode code 290 = .ok (.iload_n 3, 1) := by decide +kernel
theorem dL_law_291 : decode code 291 = .ok (.iconst 1, 1) := by decide +kernel
theorem dL_law_292 : decode code 292 = .ok (.iadd, 1) := by decide +kernel
theorem dL_law_293 : decode code 293 = .ok (.iaload, 1) := by decide +kernel
theorem dL_law_294 : decode code 294 = .ok (.invokevirtual 46, 3) := by decide +kernel
theorem dL_law_297 : decode code 297 = .ok (.if_icmp .eq 278, 3) := by decide +kernel
theorem dL_law_300 : decode code 300 = .ok (.iconst 0, 1) := by decide +kernel
theorem dL_law_301 : decode code 301 = .ok (.ireturn, 1) := by decide +kernel
theorem dL_law_302 : decode code 302 = .ok (.aload_n 1, 1) := by decide +kernel
theorem dL_law_303 : decode code 303 = .ok (.aload_n 0, 1) := by decide +kernel
theorem dL_law_304 : decode code 304 = .ok (.iload_n 3, 1) := by decide +kernel
theorem dL_law_305 : decode code 305 = .ok (.iconst 1, 1) := by decide +kernel
theorem dL_law_306 : decode code 306 = .ok (.iadd, 1) := by decide +kernel
theorem dL_law_307 : decode code 307 = .ok (.iaload, 1) := by decide +kernel
theorem dL_law_308 : decode code 308 = .ok (.invokevirtual 47, 3) := by decide +kernel
theorem dL_law_311 : decode code 311 = .ok (.aload_n 2, 1) := by decide +kernel
theorem dL_law_312 : decode code 312 = .ok (.aload_n 0, 1) := by decide +kernel
theorem dL_law_313 : decode code 313 = .ok (.iload_n 3, 1) := by decide +kernel
theorem dL_law_314 : decode code 314 = .ok (.iconst 1, 1) := by decide +kernel
theorem dL_law_315 : decode code 315 = .ok (.iadd, 1) := by decide +kernel
theorem dL_law_316 : decode code 316 = .ok (.iaload, 1) := by decide +kernel
theorem dL_law_317 : decode code 317 = .ok (.invokevirtual 50, 3) := by decide +kernel
theorem dL_law_320 : decode code 320 = .ok (.if_icmp .eq 255, 3) := by decide +kernel
theorem dL_law_323 : decode code 323 = .ok (.iconst 0, 1) := by decide +kernel
theorem dL_law_324 : decode code 324 = .ok (.ireturn, 1) := by decide +kernel
theorem dL_law_325 : decode code 325 = .ok (.aload_n 1, 1) := by decide +kernel
theorem dL_law_326 : decode code 326 = .ok (.invokevirtual 51, 3) := by decide +kernel
theorem dL_law_329 : decode code 329 = .ok (.aload_n 2, 1) := by decide +kernel
theorem dL_law_330 : decode code 330 = .ok (.invokevirtual 55, 3) := by decide +kernel
theorem dL_law_333 : decode code 333 = .ok (.if_icmp .eq 242, 3) := by decide +kernel
theorem dL_law_336 : decode code 336 = .ok (.iconst 0, 1) := by decide +kernel
theorem dL_law_337 : decode code 337 = .ok (.ireturn, 1) := by decide +kernel
theorem dL_law_338 : decode code 338 = .ok (.aload_n 1, 1) := by decide +kernel
theorem dL_law_339 : decode code 339 = .ok (.aload_n 0, 1) := by decide +kernel
theorem dL_law_340 : decode code 340 = .ok (.iload_n 3, 1) := by decide +kernel
theorem dL_law_341 : decode code 341 = .ok (.iconst 1, 1) := by decide +kernel
theorem dL_law_342 : decode code 342 = .ok (.iadd, 1) := by decide +kernel
theorem dL_law_343 : decode code 343 = .ok (.iaload, 1) := by decide +kernel
theorem dL_law_344 : decode code 344 = .ok (.invokevirtual 56, 3) := by decide +kernel
theorem dL_law_347 : decode code 347 = .ok (.aload_n 2, 1) := by decide +kernel
theorem dL_law_348 : decode code 348 = .ok (.aload_n 0, 1) := by decide +kernel
theorem dL_law_349 : decode code 349 = .ok (.iload_n 3, 1) := by decide +kernel
theorem dL_law_350 : decode code 350 = .ok (.iconst 1, 1) := by decide +kernel
theorem dL_law_351 : decode code 351 = .ok (.iadd, 1) := by decide +kernel
theorem dL_law_352 : decode code 352 = .ok (.iaload, 1) := by decide +kernel
theorem dL_law_353 : decode code 353 = .ok (.invokevirtual 59, 3) := by decide +kernel
theorem dL_law_356 : decode code 356 = .ok (.if_icmp .eq 219, 3) := by decide +kernel
theorem dL_law_359 : decode code 359 = .ok (.iconst 0, 1) := by decide +kernel
theorem dL_law_360 : decode code 360 = .ok (.ireturn, 1) := by decide +kernel
theorem dL_law_361 : decode code 361 = .ok (.aload_n 1, 1) := by decide +kernel
theorem dL_law_362 : decode code 362 = .ok (.aload_n 0, 1) := by decide +kernel
theorem dL_law_363 : decode code 363 = .ok (.iload_n 3, 1) := by decide +kernel
theorem dL_law_364 : decode code 364 = .ok (.iconst 1, 1) := by decide +kernel
theorem dL_law_365 : decode code 365 = .ok (.iadd, 1) := by decide +kernel
theorem dL_law_366 : decode code 366 = .ok (.iaload, 1) := by decide +kernel
theorem dL_law_367 : decode code 367 = .ok (.invokevirtual 60, 3) := by decide +kernel
theorem dL_law_370 : decode code 370 = .ok (.aload_n 2, 1) := by decide +kernel
theorem dL_law_371 : decode code 371 = .ok (.aload_n 0, 1) := by decide +kernel
theorem dL_law_372 : decode code 372 = .ok (.iload_n 3, 1) := by decide +kernel
theorem dL_law_373 : decode code 373 = .ok (.iconst 1, 1) := by decide +kernel
theorem dL_law_374 : decode code 374 = .ok (.iadd, 1) := by decide +kernel
theorem dL_law_375 : decode code 375 = .ok (.iaload, 1) := by decide +kernel
theorem dL_law_376 : decode code 376 = .ok (.invokevirtual 63, 3) := by decide +kernel
theorem dL_law_379 : decode code 379 = .ok (.if_icmp .eq 196, 3) := by decide +kernel
theorem dL_law_382 : decode code 382 = .ok (.iconst 0, 1) := by decide +kernel
theorem dL_law_383 : decode code 383 = .ok (.ireturn, 1) := by decide +kernel
theorem dL_law_384 : decode code 384 = .ok (.aload_n 1, 1) := by decide +kernel
theorem dL_law_385 : decode code 385 = .ok (.aload_n 0, 1) := by decide +kernel
theorem dL_law_386 : decode code 386 = .ok (.iload_n 3, 1) := by decide +kernel
theorem dL_law_387 : decode code 387 = .ok (.iconst 1, 1) := by decide +kernel
theorem dL_law_388 : decode code 388 = .ok (.iadd, 1) := by decide +kernel
theorem dL_law_389 : decode code 389 = .ok (.iaload, 1) := by decide +kernel
theorem dL_law_390 : decode code 390 = .ok (.aload_n 0, 1) := by decide +kernel
theorem dL_law_391 : decode code 391 = .ok (.iload_n 3, 1) := by decide +kernel
theorem dL_law_392 : decode code 392 = .ok (.iconst 2, 1) := by decide +kernel
theorem dL_law_393 : decode code 393 = .ok (.iadd, 1) := by decide +kernel
theorem dL_law_394 : decode code 394 = .ok (.iaload, 1) := by decide +kernel
theorem dL_law_395 : decode code 395 = .ok (.aload_n 0, 1) := by decide +kernel
theorem dL_law_396 : decode code 396 = .ok (.iload_n 3, 1) := by decide +kernel
theorem dL_law_397 : decode code 397 = .ok (.iconst 3, 1) := by decide +kernel
theorem dL_law_398 : decode code 398 = .ok (.iadd, 1) := by decide +kernel
theorem dL_law_399 : decode code 399 = .ok (.iaload, 1) := by decide +kernel
theorem dL_law_400 : decode code 400 = .ok (.invokevirtual 64, 3) := by decide +kernel
theorem dL_law_403 : decode code 403 = .ok (.aload_n 2, 1) := by decide +kernel
theorem dL_law_404 : decode code 404 = .ok (.aload_n 0, 1) := by decide +kernel
theorem dL_law_405 : decode code 405 = .ok (.iload_n 3, 1) := by decide +kernel
theorem dL_law_406 : decode code 406 = .ok (.iconst 1, 1) := by decide +kernel
theorem dL_law_407 : decode code 407 = .ok (.iadd, 1) := by decide +kernel
theorem dL_law_408 : decode code 408 = .ok (.iaload, 1) := by decide +kernel
theorem dL_law_409 : decode code 409 = .ok (.aload_n 0, 1) := by decide +kernel
theorem dL_law_410 : decode code 410 = .ok (.iload_n 3, 1) := by decide +kernel
theorem dL_law_411 : decode code 411 = .ok (.iconst 2, 1) := by decide +kernel
theorem dL_law_412 : decode code 412 = .ok (.iadd, 1) := by decide +kernel
theorem dL_law_413 : decode code 413 = .ok (.iaload, 1) := by decide +kernel
theorem dL_law_414 : decode code 414 = .ok (.aload_n 0, 1) := by decide +kernel
theorem dL_law_415 : decode code 415 = .ok (.iload_n 3, 1) := by decide +kernel
theorem dL_law_416 : decode code 416 = .ok (.iconst 3, 1) := by decide +kernel
theorem dL_law_417 : decode code 417 = .ok (.iadd, 1) := by decide +kernel
theorem dL_law_418 : decode code 418 = .ok (.iaload, 1) := by decide +kernel
theorem dL_law_419 : decode code 419 = .ok (.invokevirtual 68, 3) := by decide +kernel
theorem dL_law_422 : decode code 422 = .ok (.if_icmp .eq 153, 3) := by decide +kernel
theorem dL_law_425 : decode code 425 = .ok (.iconst 0, 1) := by decide +kernel
theorem dL_law_426 : decode code 426 = .ok (.ireturn, 1) := by decide +kernel
theorem dL_law_427 : decode code 427 = .ok (.aload_n 1, 1) := by decide +kernel
theorem dL_law_428 : decode code 428 = .ok (.aload_n 0, 1) := by decide +kernel
theorem dL_law_429 : decode code 429 = .ok (.iload_n 3, 1) := by decide +kernel
theorem dL_law_430 : decode code 430 = .ok (.iconst 1, 1) := by decide +kernel
theorem dL_law_431 : decode code 431 = .ok (.iadd, 1) := by decide +kernel
theorem dL_law_432 : decode code 432 = .ok (.iaload, 1) := by decide +kernel
theorem dL_law_433 : decode code 433 = .ok (.aload_n 0, 1) := by decide +kernel
theorem dL_law_434 : decode code 434 = .ok (.iload_n 3, 1) := by decide +kernel
theorem dL_law_435 : decode code 435 = .ok (.iconst 2, 1) := by decide +kernel
theorem dL_law_436 : decode code 436 = .ok (.iadd, 1) := by decide +kernel
theorem dL_law_437 : decode code 437 = .ok (.iaload, 1) := by decide +kernel
theorem dL_law_438 : decode code 438 = .ok (.invokevirtual 69, 3) := by decide +kernel
theorem dL_law_441 : decode code 441 = .ok (.aload_n 2, 1) := by decide +kernel
theorem dL_law_442 : decode code 442 = .ok (.aload_n 0, 1) := by decide +kernel
theorem dL_law_443 : decode code 443 = .ok (.iload_n 3, 1) := by decide +kernel
theorem dL_law_444 : decode code 444 = .ok (.iconst 1, 1) := by decide +kernel
theorem dL_law_445 : decode code 445 = .ok (.iadd, 1) := by decide +kernel
theorem dL_law_446 : decode code 446 = .ok (.iaload, 1) := by decide +kernel
theorem dL_law_447 : decode code 447 = .ok (.aload_n 0, 1) := by decide +kernel
theorem dL_law_448 : decode code 448 = .ok (.iload_n 3, 1) := by decide +kernel
theorem dL_law_449 : decode code 449 = .ok (.iconst 2, 1) := by decide +kernel
theorem dL_law_450 : decode code 450 = .ok (.iadd, 1) := by decide +kernel
theorem dL_law_451 : decode code 451 = .ok (.iaload, 1) := by decide +kernel
theorem dL_law_452 : decode code 452 = .ok (.invokevirtual 72, 3) := by decide +kernel
theorem dL_law_455 : decode code 455 = .ok (.if_icmp .eq 120, 3) := by decide +kernel
theorem dL_law_458 : decode code 458 = .ok (.iconst 0, 1) := by decide +kernel
theorem dL_law_459 : decode code 459 = .ok (.ireturn, 1) := by decide +kernel
theorem dL_law_460 : decode code 460 = .ok (.aload_n 1, 1) := by decide +kernel
theorem dL_law_461 : decode code 461 = .ok (.aload_n 0, 1) := by decide +kernel
theorem dL_law_462 : decode code 462 = .ok (.iload_n 3, 1) := by decide +kernel
theorem dL_law_463 : decode code 463 = .ok (.iconst 1, 1) := by decide +kernel
theorem dL_law_464 : decode code 464 = .ok (.iadd, 1) := by decide +kernel
theorem dL_law_465 : decode code 465 = .ok (.iaload, 1) := by decide +kernel
theorem dL_law_466 : decode code 466 = .ok (.invokevirtual 73, 3) := by decide +kernel
theorem dL_law_469 : decode code 469 = .ok (.aload_n 2, 1) := by decide +kernel
theorem dL_law_470 : decode code 470 = .ok (.aload_n 0, 1) := by decide +kernel
theorem dL_law_471 : decode code 471 = .ok (.iload_n 3, 1) := by decide +kernel
theorem dL_law_472 : decode code 472 = .ok (.iconst 1, 1) := by decide +kernel
theorem dL_law_473 : decode code 473 = .ok (.iadd, 1) := by decide +kernel
theorem dL_law_474 : decode code 474 = .ok (.iaload, 1) := by decide +kernel
theorem dL_law_475 : decode code 475 = .ok (.invokevirtual 77, 3) := by decide +kernel
theorem dL_law_478 : decode code 478 = .ok (.if_icmp .eq 97, 3) := by decide +kernel
theorem dL_law_481 : decode code 481 = .ok (.iconst 0, 1) := by decide +kernel
theorem dL_law_482 : decode code 482 = .ok (.ireturn, 1) := by decide +kernel
theorem dL_law_483 : decode code 483 = .ok (.aload_n 1, 1) := by decide +kernel
theorem dL_law_484 : decode code 484 = .ok (.aload_n 0, 1) := by decide +kernel
theorem dL_law_485 : decode code 485 = .ok (.iload_n 3, 1) := by decide +kernel
theorem dL_law_486 : decode code 486 = .ok (.iconst 1, 1) := by decide +kernel
theorem dL_law_487 : decode code 487 = .ok (.iadd, 1) := by decide +kernel
theorem dL_law_488 : decode code 488 = .ok (.iaload, 1) := by decide +kernel
theorem dL_law_489 : decode code 489 = .ok (.invokevirtual 78, 3) := by decide +kernel
theorem dL_law_492 : decode code 492 = .ok (.aload_n 2, 1) := by decide +kernel
theorem dL_law_493 : decode code 493 = .ok (.aload_n 0, 1) := by decide +kernel
theorem dL_law_494 : decode code 494 = .ok (.iload_n 3, 1) := by decide +kernel
theorem dL_law_495 : decode code 495 = .ok (.iconst 1, 1) := by decide +kernel
theorem dL_law_496 : decode code 496 = .ok (.iadd, 1) := by decide +kernel
theorem dL_law_497 : decode code 497 = .ok (.iaload, 1) := by decide +kernel
theorem dL_law_498 : decode code 498 = .ok (.invokevirtual 81, 3) := by decide +kernel
theorem dL_law_501 : decode code 501 = .ok (.if_icmp .eq 74, 3) := by decide +kernel
theorem dL_law_504 : decode code 504 = .ok (.iconst 0, 1) := by decide +kernel
theorem dL_law_505 : decode code 505 = .ok (.ireturn, 1) := by decide +kernel
theorem dL_law_506 : decode code 506 = .ok (.aload_n 1, 1) := by decide +kernel
theorem dL_law_507 : decode code 507 = .ok (.aload_n 0, 1) := by decide +kernel
theorem dL_law_508 : decode code 508 = .ok (.iload_n 3, 1) := by decide +kernel
theorem dL_law_509 : decode code 509 = .ok (.iconst 1, 1) := by decide +kernel
theorem dL_law_510 : decode code 510 = .ok (.iadd, 1) := by decide +kernel
theorem dL_law_511 : decode code 511 = .ok (.iaload, 1) := by decide +kernel
theorem dL_law_512 : decode code 512 = .ok (.invokevirtual 82, 3) := by decide +kernel
theorem dL_law_515 : decode code 515 = .ok (.aload_n 2, 1) := by decide +kernel
theorem dL_law_516 : decode code 516 = .ok (.aload_n 0, 1) := by decide +kernel
theorem dL_law_517 : decode code 517 = .ok (.iload_n 3, 1) := by decide +kernel
theorem dL_law_518 : decode code 518 = .ok (.iconst 1, 1) := by decide +kernel
theorem dL_law_519 : decode code 519 = .ok (.iadd, 1) := by decide +kernel
theorem dL_law_520 : decode code 520 = .ok (.iaload, 1) := by decide +kernel
theorem dL_law_521 : decode code 521 = .ok (.invokevirtual 85, 3) := by decide +kernel
theorem dL_law_524 : decode code 524 = .ok (.if_icmp .eq 51, 3) := by decide +kernel
theorem dL_law_527 : decode code 527 = .ok (.iconst 0, 1) := by decide +kernel
theorem dL_law_528 : decode code 528 = .ok (.ireturn, 1) := by decide +kernel
theorem dL_law_529 : decode code 529 = .ok (.aload_n 1, 1) := by decide +kernel
theorem dL_law_530 : decode code 530 = .ok (.invokevirtual 86, 3) := by decide +kernel
theorem dL_law_533 : decode code 533 = .ok (.aload_n 2, 1) := by decide +kernel
theorem dL_law_534 : decode code 534 = .ok (.invokevirtual 89, 3) := by decide +kernel
theorem dL_law_537 : decode code 537 = .ok (.if_icmp .eq 38, 3) := by decide +kernel
theorem dL_law_540 : decode code 540 = .ok (.iconst 0, 1) := by decide +kernel
theorem dL_law_541 : decode code 541 = .ok (.ireturn, 1) := by decide +kernel
theorem dL_law_542 : decode code 542 = .ok (.aload_n 1, 1) := by decide +kernel
theorem dL_law_543 : decode code 543 = .ok (.aload_n 0, 1) := by decide +kernel
theorem dL_law_544 : decode code 544 = .ok (.iload_n 3, 1) := by decide +kernel
theorem dL_law_545 : decode code 545 = .ok (.iconst 1, 1) := by decide +kernel
theorem dL_law_546 : decode code 546 = .ok (.iadd, 1) := by decide +kernel
theorem dL_law_547 : decode code 547 = .ok (.iaload, 1) := by decide +kernel
theorem dL_law_548 : decode code 548 = .ok (.aload_n 0, 1) := by decide +kernel
theorem dL_law_549 : decode code 549 = .ok (.iload_n 3, 1) := by decide +kernel
theorem dL_law_550 : decode code 550 = .ok (.iconst 2, 1) := by decide +kernel
theorem dL_law_551 : decode code 551 = .ok (.iadd, 1) := by decide +kernel
theorem dL_law_552 : decode code 552 = .ok (.iaload, 1) := by decide +kernel
theorem dL_law_553 : decode code 553 = .ok (.invokevirtual 90, 3) := by decide +kernel
theorem dL_law_556 : decode code 556 = .ok (.aload_n 2, 1) := by decide +kernel
theorem dL_law_557 : decode code 557 = .ok (.aload_n 0, 1) := by decide +kernel
theorem dL_law_558 : decode code 558 = .ok (.iload_n 3, 1) := by decide +kernel
theorem dL_law_559 : decode code 559 = .ok (.iconst 1, 1) := by decide +kernel
theorem dL_law_560 : decode code 560 = .ok (.iadd, 1) := by decide +kernel
theorem dL_law_561 : decode code 561 = .ok (.iaload, 1) := by decide +kernel
theorem dL_law_562 : decode code 562 = .ok (.aload_n 0, 1) := by decide +kernel
theorem dL_law_563 : decode code 563 = .ok (.iload_n 3, 1) := by decide +kernel
theorem dL_law_564 : decode code 564 = .ok (.iconst 2, 1) := by decide +kernel
theorem dL_law_565 : decode code 565 = .ok (.iadd, 1) := by decide +kernel
theorem dL_law_566 : decode code 566 = .ok (.iaload, 1) := by decide +kernel
theorem dL_law_567 : decode code 567 = .ok (.invokevirtual 93, 3) := by decide +kernel
theorem dL_law_570 : decode code 570 = .ok (.if_icmp .eq 5, 3) := by decide +kernel
theorem dL_law_573 : decode code 573 = .ok (.iconst 0, 1) := by decide +kernel
theorem dL_law_574 : decode code 574 = .ok (.ireturn, 1) := by decide +kernel
theorem dL_law_575 : decode code 575 = .ok (.iinc 3 4, 3) := by decide +kernel
theorem dL_law_578 : decode code 578 = .ok (.goto (-550), 3) := by decide +kernel
theorem dL_law_581 : decode code 581 = .ok (.iconst 1, 1) := by decide +kernel
theorem dL_law_582 : decode code 582 = .ok (.ireturn, 1) := by decide +kernel
theorem d_cell_0 : decode method_2_code 0 = .ok (.iload_n 1, 1) := by decide +kernel
theorem d_cell_1 : decode method_2_code 1 = .ok (.aload_n 0, 1) := by decide +kernel
theorem d_cell_2 : decode method_2_code 2 = .ok (.arraylength, 1) := by decide +kernel
theorem d_cell_3 : decode method_2_code 3 = .ok (.if_icmp .ge 9, 3) := by decide +kernel
theorem d_cell_6 : decode method_2_code 6 = .ok (.aload_n 0, 1) := by decide +kernel
theorem d_cell_7 : decode method_2_code 7 = .ok (.iload_n 1, 1) := by decide +kernel
theorem d_cell_8 : decode method_2_code 8 = .ok (.iaload, 1) := by decide +kernel
theorem d_cell_9 : decode method_2_code 9 = .ok (.goto 4, 3) := by decide +kernel
theorem d_cell_12 : decode method_2_code 12 = .ok (.iconst 0, 1) := by decide +kernel
theorem d_cell_13 : decode method_2_code 13 = .ok (.ireturn, 1) := by decide +kernel
theorem tw_0 : (Jvm.Cond.initialized "TwoPhaseCutsLaw") ∈ tw_tbl := tw_of 0 (by decide +kernel) (by decide +kernel)
theorem tw_9 : (Jvm.Cond.classLink "TwoPhaseCutsLaw" (7 : Nat) "TwoPhaseCuts") ∈ tw_tbl := tw_of 9 (by decide +kernel) (by decide +kernel)
theorem tw_10 : (Jvm.Cond.instantiable "TwoPhaseCuts" (7 : Nat)) ∈ tw_tbl := tw_of 10 (by decide +kernel) (by decide +kernel)
theorem tw_11 : (Jvm.Cond.methodLink "TwoPhaseCutsLaw" (15 : Nat) ({ cls := "TwoPhaseCuts", name := "<init>", desc := "(I)V" } : Jvm.MethodName)) ∈ tw_tbl := tw_of 11 (by decide +kernel) (by decide +kernel)
theorem tw_12 : (Jvm.Cond.instanceMethod ({ cls := "TwoPhaseCuts", name := "<init>", desc := "(I)V" } : Jvm.MethodName)) ∈ tw_tbl := tw_of 12 (by decide +kernel) (by decide +kernel)
theorem tw_13 : (Jvm.Cond.code ({ cls := "TwoPhaseCuts", name := "<init>", desc := "(I)V" } : Jvm.MethodName) prog_1_method_1_code (3 : Nat) (Option.none : Option Jvm.ClassFile.FieldType)) ∈ tw_tbl := tw_of 13 (by decide +kernel) (by decide +kernel)
theorem tw_186 : (Jvm.Cond.methodLink "TwoPhaseCutsLaw" (21 : Nat) ({ cls := "TwoPhaseCuts", name := "work", desc := "(II)I" } : Jvm.MethodName)) ∈ tw_tbl := tw_of 186 (by decide +kernel) (by decide +kernel)
theorem tw_187 : (Jvm.Cond.instanceMethod ({ cls := "TwoPhaseCuts", name := "work", desc := "(II)I" } : Jvm.MethodName)) ∈ tw_tbl := tw_of 187 (by decide +kernel) (by decide +kernel)
theorem tw_188 : (Jvm.Cond.selects "TwoPhaseCuts" ({ cls := "TwoPhaseCuts", name := "work", desc := "(II)I" } : Jvm.MethodName) ({ cls := "TwoPhaseCuts", name := "work", desc := "(II)I" } : Jvm.MethodName)) ∈ tw_tbl := tw_of 188 (by decide +kernel) (by decide +kernel)
theorem tw_189 : (Jvm.Cond.code ({ cls := "TwoPhaseCuts", name := "work", desc := "(II)I" } : Jvm.MethodName) prog_1_method_2_code (4 : Nat) (Option.some Jvm.ClassFile.FieldType.int)) ∈ tw_tbl := tw_of 189 (by decide +kernel) (by decide +kernel)
theorem tw_202 : (Jvm.Cond.methodLink "TwoPhaseCutsLaw" (26 : Nat) ({ cls := "TwoPhaseCuts", name := "send", desc := "(II)I" } : Jvm.MethodName)) ∈ tw_tbl := tw_of 202 (by decide +kernel) (by decide +kernel)
theorem tw_203 : (Jvm.Cond.instanceMethod ({ cls := "TwoPhaseCuts", name := "send", desc := "(II)I" } : Jvm.MethodName)) ∈ tw_tbl := tw_of 203 (by decide +kernel) (by decide +kernel)
theorem tw_204 : (Jvm.Cond.selects "TwoPhaseCuts" ({ cls := "TwoPhaseCuts", name := "send", desc := "(II)I" } : Jvm.MethodName) ({ cls := "TwoPhaseCuts", name := "send", desc := "(II)I" } : Jvm.MethodName)) ∈ tw_tbl := tw_of 204 (by decide +kernel) (by decide +kernel)
theorem tw_205 : (Jvm.Cond.code ({ cls := "TwoPhaseCuts", name := "send", desc := "(II)I" } : Jvm.MethodName) prog_1_method_3_code (5 : Nat) (Option.some Jvm.ClassFile.FieldType.int)) ∈ tw_tbl := tw_of 205 (by decide +kernel) (by decide +kernel)
theorem tw_219 : (Jvm.Cond.methodLink "TwoPhaseCutsLaw" (30 : Nat) ({ cls := "TwoPhaseCuts", name := "receive", desc := "(II)I" } : Jvm.MethodName)) ∈ tw_tbl := tw_of 219 (by decide +kernel) (by decide +kernel)
theorem tw_220 : (Jvm.Cond.instanceMethod ({ cls := "TwoPhaseCuts", name := "receive", desc := "(II)I" } : Jvm.MethodName)) ∈ tw_tbl := tw_of 220 (by decide +kernel) (by decide +kernel)
theorem tw_221 : (Jvm.Cond.selects "TwoPhaseCuts" ({ cls := "TwoPhaseCuts", name := "receive", desc := "(II)I" } : Jvm.MethodName) ({ cls := "TwoPhaseCuts", name := "receive", desc := "(II)I" } : Jvm.MethodName)) ∈ tw_tbl := tw_of 221 (by decide +kernel) (by decide +kernel)
theorem tw_222 : (Jvm.Cond.code ({ cls := "TwoPhaseCuts", name := "receive", desc := "(II)I" } : Jvm.MethodName) prog_1_method_4_code (7 : Nat) (Option.some Jvm.ClassFile.FieldType.int)) ∈ tw_tbl := tw_of 222 (by decide +kernel) (by decide +kernel)
theorem tw_228 : (Jvm.Cond.methodLink "TwoPhaseCutsLaw" (34 : Nat) ({ cls := "TwoPhaseCuts", name := "lose", desc := "(II)I" } : Jvm.MethodName)) ∈ tw_tbl := tw_of 228 (by decide +kernel) (by decide +kernel)
theorem tw_229 : (Jvm.Cond.instanceMethod ({ cls := "TwoPhaseCuts", name := "lose", desc := "(II)I" } : Jvm.MethodName)) ∈ tw_tbl := tw_of 229 (by decide +kernel) (by decide +kernel)
theorem tw_230 : (Jvm.Cond.selects "TwoPhaseCuts" ({ cls := "TwoPhaseCuts", name := "lose", desc := "(II)I" } : Jvm.MethodName) ({ cls := "TwoPhaseCuts", name := "lose", desc := "(II)I" } : Jvm.MethodName)) ∈ tw_tbl := tw_of 230 (by decide +kernel) (by decide +kernel)
theorem tw_231 : (Jvm.Cond.code ({ cls := "TwoPhaseCuts", name := "lose", desc := "(II)I" } : Jvm.MethodName) prog_1_method_5_code (5 : Nat) (Option.some Jvm.ClassFile.FieldType.int)) ∈ tw_tbl := tw_of 231 (by decide +kernel) (by decide +kernel)
theorem tw_232 : (Jvm.Cond.methodLink "TwoPhaseCutsLaw" (38 : Nat) ({ cls := "TwoPhaseCuts", name := "checkpoint", desc := "(I)I" } : Jvm.MethodName)) ∈ tw_tbl := tw_of 232 (by decide +kernel) (by decide +kernel)
theorem tw_233 : (Jvm.Cond.instanceMethod ({ cls := "TwoPhaseCuts", name := "checkpoint", desc := "(I)I" } : Jvm.MethodName)) ∈ tw_tbl := tw_of 233 (by decide +kernel) (by decide +kernel)
theorem tw_234 : (Jvm.Cond.selects "TwoPhaseCuts" ({ cls := "TwoPhaseCuts", name := "checkpoint", desc := "(I)I" } : Jvm.MethodName) ({ cls := "TwoPhaseCuts", name := "checkpoint", desc := "(I)I" } : Jvm.MethodName)) ∈ tw_tbl := tw_of 234 (by decide +kernel) (by decide +kernel)
theorem tw_235 : (Jvm.Cond.code ({ cls := "TwoPhaseCuts", name := "checkpoint", desc := "(I)I" } : Jvm.MethodName) prog_1_method_6_code (2 : Nat) (Option.some Jvm.ClassFile.FieldType.int)) ∈ tw_tbl := tw_of 235 (by decide +kernel) (by decide +kernel)
theorem tw_285 : (Jvm.Cond.methodLink "TwoPhaseCutsLaw" (43 : Nat) ({ cls := "TwoPhaseCuts", name := "crash", desc := "(I)I" } : Jvm.MethodName)) ∈ tw_tbl := tw_of 285 (by decide +kernel) (by decide +kernel)
theorem tw_286 : (Jvm.Cond.instanceMethod ({ cls := "TwoPhaseCuts", name := "crash", desc := "(I)I" } : Jvm.MethodName)) ∈ tw_tbl := tw_of 286 (by decide +kernel) (by decide +kernel)
theorem tw_287 : (Jvm.Cond.selects "TwoPhaseCuts" ({ cls := "TwoPhaseCuts", name := "crash", desc := "(I)I" } : Jvm.MethodName) ({ cls := "TwoPhaseCuts", name := "crash", desc := "(I)I" } : Jvm.MethodName)) ∈ tw_tbl := tw_of 287 (by decide +kernel) (by decide +kernel)
theorem tw_288 : (Jvm.Cond.code ({ cls := "TwoPhaseCuts", name := "crash", desc := "(I)I" } : Jvm.MethodName) prog_1_method_7_code (2 : Nat) (Option.some Jvm.ClassFile.FieldType.int)) ∈ tw_tbl := tw_of 288 (by decide +kernel) (by decide +kernel)
theorem tw_289 : (Jvm.Cond.methodLink "TwoPhaseCutsLaw" (47 : Nat) ({ cls := "TwoPhaseCuts", name := "restart", desc := "(I)I" } : Jvm.MethodName)) ∈ tw_tbl := tw_of 289 (by decide +kernel) (by decide +kernel)
theorem tw_290 : (Jvm.Cond.instanceMethod ({ cls := "TwoPhaseCuts", name := "restart", desc := "(I)I" } : Jvm.MethodName)) ∈ tw_tbl := tw_of 290 (by decide +kernel) (by decide +kernel)
theorem tw_291 : (Jvm.Cond.selects "TwoPhaseCuts" ({ cls := "TwoPhaseCuts", name := "restart", desc := "(I)I" } : Jvm.MethodName) ({ cls := "TwoPhaseCuts", name := "restart", desc := "(I)I" } : Jvm.MethodName)) ∈ tw_tbl := tw_of 291 (by decide +kernel) (by decide +kernel)
theorem tw_292 : (Jvm.Cond.code ({ cls := "TwoPhaseCuts", name := "restart", desc := "(I)I" } : Jvm.MethodName) prog_1_method_8_code (2 : Nat) (Option.some Jvm.ClassFile.FieldType.int)) ∈ tw_tbl := tw_of 292 (by decide +kernel) (by decide +kernel)
theorem tw_293 : (Jvm.Cond.methodLink "TwoPhaseCutsLaw" (51 : Nat) ({ cls := "TwoPhaseCuts", name := "tick", desc := "()I" } : Jvm.MethodName)) ∈ tw_tbl := tw_of 293 (by decide +kernel) (by decide +kernel)
theorem tw_294 : (Jvm.Cond.instanceMethod ({ cls := "TwoPhaseCuts", name := "tick", desc := "()I" } : Jvm.MethodName)) ∈ tw_tbl := tw_of 294 (by decide +kernel) (by decide +kernel)
theorem tw_295 : (Jvm.Cond.selects "TwoPhaseCuts" ({ cls := "TwoPhaseCuts", name := "tick", desc := "()I" } : Jvm.MethodName) ({ cls := "TwoPhaseCuts", name := "tick", desc := "()I" } : Jvm.MethodName)) ∈ tw_tbl := tw_of 295 (by decide +kernel) (by decide +kernel)
theorem tw_296 : (Jvm.Cond.code ({ cls := "TwoPhaseCuts", name := "tick", desc := "()I" } : Jvm.MethodName) prog_1_method_9_code (3 : Nat) (Option.some Jvm.ClassFile.FieldType.int)) ∈ tw_tbl := tw_of 296 (by decide +kernel) (by decide +kernel)
theorem tw_329 : (Jvm.Cond.methodLink "TwoPhaseCutsLaw" (56 : Nat) ({ cls := "TwoPhaseCuts", name := "value", desc := "(I)I" } : Jvm.MethodName)) ∈ tw_tbl := tw_of 329 (by decide +kernel) (by decide +kernel)
theorem tw_330 : (Jvm.Cond.instanceMethod ({ cls := "TwoPhaseCuts", name := "value", desc := "(I)I" } : Jvm.MethodName)) ∈ tw_tbl := tw_of 330 (by decide +kernel) (by decide +kernel)
theorem tw_331 : (Jvm.Cond.selects "TwoPhaseCuts" ({ cls := "TwoPhaseCuts", name := "value", desc := "(I)I" } : Jvm.MethodName) ({ cls := "TwoPhaseCuts", name := "value", desc := "(I)I" } : Jvm.MethodName)) ∈ tw_tbl := tw_of 331 (by decide +kernel) (by decide +kernel)
theorem tw_332 : (Jvm.Cond.code ({ cls := "TwoPhaseCuts", name := "value", desc := "(I)I" } : Jvm.MethodName) prog_1_method_10_code (2 : Nat) (Option.some Jvm.ClassFile.FieldType.int)) ∈ tw_tbl := tw_of 332 (by decide +kernel) (by decide +kernel)
theorem tw_333 : (Jvm.Cond.methodLink "TwoPhaseCutsLaw" (60 : Nat) ({ cls := "TwoPhaseCuts", name := "kept", desc := "(I)I" } : Jvm.MethodName)) ∈ tw_tbl := tw_of 333 (by decide +kernel) (by decide +kernel)
theorem tw_334 : (Jvm.Cond.instanceMethod ({ cls := "TwoPhaseCuts", name := "kept", desc := "(I)I" } : Jvm.MethodName)) ∈ tw_tbl := tw_of 334 (by decide +kernel) (by decide +kernel)
theorem tw_335 : (Jvm.Cond.selects "TwoPhaseCuts" ({ cls := "TwoPhaseCuts", name := "kept", desc := "(I)I" } : Jvm.MethodName) ({ cls := "TwoPhaseCuts", name := "kept", desc := "(I)I" } : Jvm.MethodName)) ∈ tw_tbl := tw_of 335 (by decide +kernel) (by decide +kernel)
theorem tw_336 : (Jvm.Cond.code ({ cls := "TwoPhaseCuts", name := "kept", desc := "(I)I" } : Jvm.MethodName) prog_1_method_11_code (2 : Nat) (Option.some Jvm.ClassFile.FieldType.int)) ∈ tw_tbl := tw_of 336 (by decide +kernel) (by decide +kernel)
theorem tw_337 : (Jvm.Cond.methodLink "TwoPhaseCutsLaw" (64 : Nat) ({ cls := "TwoPhaseCuts", name := "label", desc := "(III)I" } : Jvm.MethodName)) ∈ tw_tbl := tw_of 337 (by decide +kernel) (by decide +kernel)
theorem tw_338 : (Jvm.Cond.instanceMethod ({ cls := "TwoPhaseCuts", name := "label", desc := "(III)I" } : Jvm.MethodName)) ∈ tw_tbl := tw_of 338 (by decide +kernel) (by decide +kernel)
theorem tw_339 : (Jvm.Cond.selects "TwoPhaseCuts" ({ cls := "TwoPhaseCuts", name := "label", desc := "(III)I" } : Jvm.MethodName) ({ cls := "TwoPhaseCuts", name := "label", desc := "(III)I" } : Jvm.MethodName)) ∈ tw_tbl := tw_of 339 (by decide +kernel) (by decide +kernel)
theorem tw_340 : (Jvm.Cond.code ({ cls := "TwoPhaseCuts", name := "label", desc := "(III)I" } : Jvm.MethodName) prog_1_method_12_code (4 : Nat) (Option.some Jvm.ClassFile.FieldType.int)) ∈ tw_tbl := tw_of 340 (by decide +kernel) (by decide +kernel)
theorem tw_341 : (Jvm.Cond.methodLink "TwoPhaseCutsLaw" (69 : Nat) ({ cls := "TwoPhaseCuts", name := "waiting", desc := "(II)I" } : Jvm.MethodName)) ∈ tw_tbl := tw_of 341 (by decide +kernel) (by decide +kernel)
theorem tw_342 : (Jvm.Cond.instanceMethod ({ cls := "TwoPhaseCuts", name := "waiting", desc := "(II)I" } : Jvm.MethodName)) ∈ tw_tbl := tw_of 342 (by decide +kernel) (by decide +kernel)
theorem tw_343 : (Jvm.Cond.selects "TwoPhaseCuts" ({ cls := "TwoPhaseCuts", name := "waiting", desc := "(II)I" } : Jvm.MethodName) ({ cls := "TwoPhaseCuts", name := "waiting", desc := "(II)I" } : Jvm.MethodName)) ∈ tw_tbl := tw_of 343 (by decide +kernel) (by decide +kernel)
theorem tw_344 : (Jvm.Cond.code ({ cls := "TwoPhaseCuts", name := "waiting", desc := "(II)I" } : Jvm.MethodName) prog_1_method_13_code (3 : Nat) (Option.some Jvm.ClassFile.FieldType.int)) ∈ tw_tbl := tw_of 344 (by decide +kernel) (by decide +kernel)
theorem tw_345 : (Jvm.Cond.methodLink "TwoPhaseCutsLaw" (73 : Nat) ({ cls := "TwoPhaseCuts", name := "down", desc := "(I)Z" } : Jvm.MethodName)) ∈ tw_tbl := tw_of 345 (by decide +kernel) (by decide +kernel)
theorem tw_346 : (Jvm.Cond.instanceMethod ({ cls := "TwoPhaseCuts", name := "down", desc := "(I)Z" } : Jvm.MethodName)) ∈ tw_tbl := tw_of 346 (by decide +kernel) (by decide +kernel)
theorem tw_347 : (Jvm.Cond.selects "TwoPhaseCuts" ({ cls := "TwoPhaseCuts", name := "down", desc := "(I)Z" } : Jvm.MethodName) ({ cls := "TwoPhaseCuts", name := "down", desc := "(I)Z" } : Jvm.MethodName)) ∈ tw_tbl := tw_of 347 (by decide +kernel) (by decide +kernel)
theorem tw_348 : (Jvm.Cond.code ({ cls := "TwoPhaseCuts", name := "down", desc := "(I)Z" } : Jvm.MethodName) prog_1_method_14_code (2 : Nat) (Option.some Jvm.ClassFile.FieldType.boolean)) ∈ tw_tbl := tw_of 348 (by decide +kernel) (by decide +kernel)
theorem tw_349 : (Jvm.Cond.methodLink "TwoPhaseCutsLaw" (78 : Nat) ({ cls := "TwoPhaseCuts", name := "instance", desc := "(I)I" } : Jvm.MethodName)) ∈ tw_tbl := tw_of 349 (by decide +kernel) (by decide +kernel)
theorem tw_350 : (Jvm.Cond.instanceMethod ({ cls := "TwoPhaseCuts", name := "instance", desc := "(I)I" } : Jvm.MethodName)) ∈ tw_tbl := tw_of 350 (by decide +kernel) (by decide +kernel)
theorem tw_351 : (Jvm.Cond.selects "TwoPhaseCuts" ({ cls := "TwoPhaseCuts", name := "instance", desc := "(I)I" } : Jvm.MethodName) ({ cls := "TwoPhaseCuts", name := "instance", desc := "(I)I" } : Jvm.MethodName)) ∈ tw_tbl := tw_of 351 (by decide +kernel) (by decide +kernel)
theorem tw_352 : (Jvm.Cond.code ({ cls := "TwoPhaseCuts", name := "instance", desc := "(I)I" } : Jvm.MethodName) prog_1_method_15_code (2 : Nat) (Option.some Jvm.ClassFile.FieldType.int)) ∈ tw_tbl := tw_of 352 (by decide +kernel) (by decide +kernel)
theorem tw_353 : (Jvm.Cond.methodLink "TwoPhaseCutsLaw" (82 : Nat) ({ cls := "TwoPhaseCuts", name := "decision", desc := "(I)I" } : Jvm.MethodName)) ∈ tw_tbl := tw_of 353 (by decide +kernel) (by decide +kernel)
theorem tw_354 : (Jvm.Cond.instanceMethod ({ cls := "TwoPhaseCuts", name := "decision", desc := "(I)I" } : Jvm.MethodName)) ∈ tw_tbl := tw_of 354 (by decide +kernel) (by decide +kernel)
theorem tw_355 : (Jvm.Cond.selects "TwoPhaseCuts" ({ cls := "TwoPhaseCuts", name := "decision", desc := "(I)I" } : Jvm.MethodName) ({ cls := "TwoPhaseCuts", name := "decision", desc := "(I)I" } : Jvm.MethodName)) ∈ tw_tbl := tw_of 355 (by decide +kernel) (by decide +kernel)
theorem tw_356 : (Jvm.Cond.code ({ cls := "TwoPhaseCuts", name := "decision", desc := "(I)I" } : Jvm.MethodName) prog_1_method_16_code (2 : Nat) (Option.some Jvm.ClassFile.FieldType.int)) ∈ tw_tbl := tw_of 356 (by decide +kernel) (by decide +kernel)
theorem tw_357 : (Jvm.Cond.methodLink "TwoPhaseCutsLaw" (86 : Nat) ({ cls := "TwoPhaseCuts", name := "notes", desc := "()I" } : Jvm.MethodName)) ∈ tw_tbl := tw_of 357 (by decide +kernel) (by decide +kernel)
theorem tw_358 : (Jvm.Cond.instanceMethod ({ cls := "TwoPhaseCuts", name := "notes", desc := "()I" } : Jvm.MethodName)) ∈ tw_tbl := tw_of 358 (by decide +kernel) (by decide +kernel)
theorem tw_359 : (Jvm.Cond.selects "TwoPhaseCuts" ({ cls := "TwoPhaseCuts", name := "notes", desc := "()I" } : Jvm.MethodName) ({ cls := "TwoPhaseCuts", name := "notes", desc := "()I" } : Jvm.MethodName)) ∈ tw_tbl := tw_of 359 (by decide +kernel) (by decide +kernel)
theorem tw_360 : (Jvm.Cond.code ({ cls := "TwoPhaseCuts", name := "notes", desc := "()I" } : Jvm.MethodName) prog_1_method_17_code (1 : Nat) (Option.some Jvm.ClassFile.FieldType.int)) ∈ tw_tbl := tw_of 360 (by decide +kernel) (by decide +kernel)
theorem tw_361 : (Jvm.Cond.methodLink "TwoPhaseCutsLaw" (90 : Nat) ({ cls := "TwoPhaseCuts", name := "times", desc := "(II)I" } : Jvm.MethodName)) ∈ tw_tbl := tw_of 361 (by decide +kernel) (by decide +kernel)
theorem tw_362 : (Jvm.Cond.instanceMethod ({ cls := "TwoPhaseCuts", name := "times", desc := "(II)I" } : Jvm.MethodName)) ∈ tw_tbl := tw_of 362 (by decide +kernel) (by decide +kernel)
theorem tw_363 : (Jvm.Cond.selects "TwoPhaseCuts" ({ cls := "TwoPhaseCuts", name := "times", desc := "(II)I" } : Jvm.MethodName) ({ cls := "TwoPhaseCuts", name := "times", desc := "(II)I" } : Jvm.MethodName)) ∈ tw_tbl := tw_of 363 (by decide +kernel) (by decide +kernel)
theorem tw_364 : (Jvm.Cond.code ({ cls := "TwoPhaseCuts", name := "times", desc := "(II)I" } : Jvm.MethodName) prog_1_method_18_code (3 : Nat) (Option.some Jvm.ClassFile.FieldType.int)) ∈ tw_tbl := tw_of 364 (by decide +kernel) (by decide +kernel)
theorem tw_365 : (Jvm.Cond.methodLink "TwoPhaseCutsLaw" (9 : Nat) ({ cls := "TwoPhaseCutsLaw", name := "cell", desc := "([II)I" } : Jvm.MethodName)) ∈ tw_tbl := tw_of 365 (by decide +kernel) (by decide +kernel)
theorem tw_366 : (Jvm.Cond.static ({ cls := "TwoPhaseCutsLaw", name := "cell", desc := "([II)I" } : Jvm.MethodName)) ∈ tw_tbl := tw_of 366 (by decide +kernel) (by decide +kernel)
theorem tw_367 : (Jvm.Cond.code ({ cls := "TwoPhaseCutsLaw", name := "cell", desc := "([II)I" } : Jvm.MethodName) method_2_code (2 : Nat) (Option.some Jvm.ClassFile.FieldType.int)) ∈ tw_tbl := tw_of 367 (by decide +kernel) (by decide +kernel)
theorem tw_368 : (Jvm.Cond.classLink "TwoPhaseCutsLaw" (18 : Nat) "TwoPhaseCutsModel") ∈ tw_tbl := tw_of 368 (by decide +kernel) (by decide +kernel)
theorem tw_369 : (Jvm.Cond.instantiable "TwoPhaseCutsModel" (27 : Nat)) ∈ tw_tbl := tw_of 369 (by decide +kernel) (by decide +kernel)
theorem tw_370 : (Jvm.Cond.methodLink "TwoPhaseCutsLaw" (20 : Nat) ({ cls := "TwoPhaseCutsModel", name := "<init>", desc := "(I)V" } : Jvm.MethodName)) ∈ tw_tbl := tw_of 370 (by decide +kernel) (by decide +kernel)
theorem tw_371 : (Jvm.Cond.instanceMethod ({ cls := "TwoPhaseCutsModel", name := "<init>", desc := "(I)V" } : Jvm.MethodName)) ∈ tw_tbl := tw_of 371 (by decide +kernel) (by decide +kernel)
theorem tw_372 : (Jvm.Cond.code ({ cls := "TwoPhaseCutsModel", name := "<init>", desc := "(I)V" } : Jvm.MethodName) prog_8_method_1_code (2 : Nat) (Option.none : Option Jvm.ClassFile.FieldType)) ∈ tw_tbl := tw_of 372 (by decide +kernel) (by decide +kernel)
theorem tw_456 : (Jvm.Cond.methodLink "TwoPhaseCutsLaw" (25 : Nat) ({ cls := "TwoPhaseCutsModel", name := "work", desc := "(II)I" } : Jvm.MethodName)) ∈ tw_tbl := tw_of 456 (by decide +kernel) (by decide +kernel)
theorem tw_457 : (Jvm.Cond.instanceMethod ({ cls := "TwoPhaseCutsModel", name := "work", desc := "(II)I" } : Jvm.MethodName)) ∈ tw_tbl := tw_of 457 (by decide +kernel) (by decide +kernel)
theorem tw_458 : (Jvm.Cond.selects "TwoPhaseCutsModel" ({ cls := "TwoPhaseCutsModel", name := "work", desc := "(II)I" } : Jvm.MethodName) ({ cls := "TwoPhaseCutsModel", name := "work", desc := "(II)I" } : Jvm.MethodName)) ∈ tw_tbl := tw_of 458 (by decide +kernel) (by decide +kernel)
theorem tw_459 : (Jvm.Cond.code ({ cls := "TwoPhaseCutsModel", name := "work", desc := "(II)I" } : Jvm.MethodName) prog_8_method_11_code (3 : Nat) (Option.some Jvm.ClassFile.FieldType.int)) ∈ tw_tbl := tw_of 459 (by decide +kernel) (by decide +kernel)
theorem tw_472 : (Jvm.Cond.methodLink "TwoPhaseCutsLaw" (29 : Nat) ({ cls := "TwoPhaseCutsModel", name := "send", desc := "(II)I" } : Jvm.MethodName)) ∈ tw_tbl := tw_of 472 (by decide +kernel) (by decide +kernel)
theorem tw_473 : (Jvm.Cond.instanceMethod ({ cls := "TwoPhaseCutsModel", name := "send", desc := "(II)I" } : Jvm.MethodName)) ∈ tw_tbl := tw_of 473 (by decide +kernel) (by decide +kernel)
theorem tw_474 : (Jvm.Cond.selects "TwoPhaseCutsModel" ({ cls := "TwoPhaseCutsModel", name := "send", desc := "(II)I" } : Jvm.MethodName) ({ cls := "TwoPhaseCutsModel", name := "send", desc := "(II)I" } : Jvm.MethodName)) ∈ tw_tbl := tw_of 474 (by decide +kernel) (by decide +kernel)
theorem tw_475 : (Jvm.Cond.code ({ cls := "TwoPhaseCutsModel", name := "send", desc := "(II)I" } : Jvm.MethodName) prog_8_method_12_code (3 : Nat) (Option.some Jvm.ClassFile.FieldType.int)) ∈ tw_tbl := tw_of 475 (by decide +kernel) (by decide +kernel)
theorem tw_488 : (Jvm.Cond.methodLink "TwoPhaseCutsLaw" (33 : Nat) ({ cls := "TwoPhaseCutsModel", name := "receive", desc := "(II)I" } : Jvm.MethodName)) ∈ tw_tbl := tw_of 488 (by decide +kernel) (by decide +kernel)
theorem tw_489 : (Jvm.Cond.instanceMethod ({ cls := "TwoPhaseCutsModel", name := "receive", desc := "(II)I" } : Jvm.MethodName)) ∈ tw_tbl := tw_of 489 (by decide +kernel) (by decide +kernel)
theorem tw_490 : (Jvm.Cond.selects "TwoPhaseCutsModel" ({ cls := "TwoPhaseCutsModel", name := "receive", desc := "(II)I" } : Jvm.MethodName) ({ cls := "TwoPhaseCutsModel", name := "receive", desc := "(II)I" } : Jvm.MethodName)) ∈ tw_tbl := tw_of 490 (by decide +kernel) (by decide +kernel)
theorem tw_491 : (Jvm.Cond.code ({ cls := "TwoPhaseCutsModel", name := "receive", desc := "(II)I" } : Jvm.MethodName) prog_8_method_13_code (5 : Nat) (Option.some Jvm.ClassFile.FieldType.int)) ∈ tw_tbl := tw_of 491 (by decide +kernel) (by decide +kernel)
theorem tw_500 : (Jvm.Cond.methodLink "TwoPhaseCutsLaw" (37 : Nat) ({ cls := "TwoPhaseCutsModel", name := "lose", desc := "(II)I" } : Jvm.MethodName)) ∈ tw_tbl := tw_of 500 (by decide +kernel) (by decide +kernel)
theorem tw_501 : (Jvm.Cond.instanceMethod ({ cls := "TwoPhaseCutsModel", name := "lose", desc := "(II)I" } : Jvm.MethodName)) ∈ tw_tbl := tw_of 501 (by decide +kernel) (by decide +kernel)
theorem tw_502 : (Jvm.Cond.selects "TwoPhaseCutsModel" ({ cls := "TwoPhaseCutsModel", name := "lose", desc := "(II)I" } : Jvm.MethodName) ({ cls := "TwoPhaseCutsModel", name := "lose", desc := "(II)I" } : Jvm.MethodName)) ∈ tw_tbl := tw_of 502 (by decide +kernel) (by decide +kernel)
theorem tw_503 : (Jvm.Cond.code ({ cls := "TwoPhaseCutsModel", name := "lose", desc := "(II)I" } : Jvm.MethodName) prog_8_method_14_code (3 : Nat) (Option.some Jvm.ClassFile.FieldType.int)) ∈ tw_tbl := tw_of 503 (by decide +kernel) (by decide +kernel)
theorem tw_504 : (Jvm.Cond.methodLink "TwoPhaseCutsLaw" (55 : Nat) ({ cls := "TwoPhaseCutsModel", name := "tick", desc := "()I" } : Jvm.MethodName)) ∈ tw_tbl := tw_of 504 (by decide +kernel) (by decide +kernel)
theorem tw_505 : (Jvm.Cond.instanceMethod ({ cls := "TwoPhaseCutsModel", name := "tick", desc := "()I" } : Jvm.MethodName)) ∈ tw_tbl := tw_of 505 (by decide +kernel) (by decide +kernel)
theorem tw_506 : (Jvm.Cond.selects "TwoPhaseCutsModel" ({ cls := "TwoPhaseCutsModel", name := "tick", desc := "()I" } : Jvm.MethodName) ({ cls := "TwoPhaseCutsModel", name := "tick", desc := "()I" } : Jvm.MethodName)) ∈ tw_tbl := tw_of 506 (by decide +kernel) (by decide +kernel)
theorem tw_507 : (Jvm.Cond.code ({ cls := "TwoPhaseCutsModel", name := "tick", desc := "()I" } : Jvm.MethodName) prog_8_method_24_code (3 : Nat) (Option.some Jvm.ClassFile.FieldType.int)) ∈ tw_tbl := tw_of 507 (by decide +kernel) (by decide +kernel)
theorem tw_548 : (Jvm.Cond.methodLink "TwoPhaseCutsLaw" (42 : Nat) ({ cls := "TwoPhaseCutsModel", name := "checkpoint", desc := "(I)I" } : Jvm.MethodName)) ∈ tw_tbl := tw_of 548 (by decide +kernel) (by decide +kernel)
theorem tw_549 : (Jvm.Cond.instanceMethod ({ cls := "TwoPhaseCutsModel", name := "checkpoint", desc := "(I)I" } : Jvm.MethodName)) ∈ tw_tbl := tw_of 549 (by decide +kernel) (by decide +kernel)
theorem tw_550 : (Jvm.Cond.selects "TwoPhaseCutsModel" ({ cls := "TwoPhaseCutsModel", name := "checkpoint", desc := "(I)I" } : Jvm.MethodName) ({ cls := "TwoPhaseCutsModel", name := "checkpoint", desc := "(I)I" } : Jvm.MethodName)) ∈ tw_tbl := tw_of 550 (by decide +kernel) (by decide +kernel)
theorem tw_551 : (Jvm.Cond.code ({ cls := "TwoPhaseCutsModel", name := "checkpoint", desc := "(I)I" } : Jvm.MethodName) prog_8_method_26_code (2 : Nat) (Option.some Jvm.ClassFile.FieldType.int)) ∈ tw_tbl := tw_of 551 (by decide +kernel) (by decide +kernel)
theorem tw_556 : (Jvm.Cond.methodLink "TwoPhaseCutsLaw" (46 : Nat) ({ cls := "TwoPhaseCutsModel", name := "crash", desc := "(I)I" } : Jvm.MethodName)) ∈ tw_tbl := tw_of 556 (by decide +kernel) (by decide +kernel)
theorem tw_557 : (Jvm.Cond.instanceMethod ({ cls := "TwoPhaseCutsModel", name := "crash", desc := "(I)I" } : Jvm.MethodName)) ∈ tw_tbl := tw_of 557 (by decide +kernel) (by decide +kernel)
theorem tw_558 : (Jvm.Cond.selects "TwoPhaseCutsModel" ({ cls := "TwoPhaseCutsModel", name := "crash", desc := "(I)I" } : Jvm.MethodName) ({ cls := "TwoPhaseCutsModel", name := "crash", desc := "(I)I" } : Jvm.MethodName)) ∈ tw_tbl := tw_of 558 (by decide +kernel) (by decide +kernel)
theorem tw_559 : (Jvm.Cond.code ({ cls := "TwoPhaseCutsModel", name := "crash", desc := "(I)I" } : Jvm.MethodName) prog_8_method_27_code (2 : Nat) (Option.some Jvm.ClassFile.FieldType.int)) ∈ tw_tbl := tw_of 559 (by decide +kernel) (by decide +kernel)
theorem tw_560 : (Jvm.Cond.methodLink "TwoPhaseCutsLaw" (50 : Nat) ({ cls := "TwoPhaseCutsModel", name := "restart", desc := "(I)I" } : Jvm.MethodName)) ∈ tw_tbl := tw_of 560 (by decide +kernel) (by decide +kernel)
theorem tw_561 : (Jvm.Cond.instanceMethod ({ cls := "TwoPhaseCutsModel", name := "restart", desc := "(I)I" } : Jvm.MethodName)) ∈ tw_tbl := tw_of 561 (by decide +kernel) (by decide +kernel)
theorem tw_562 : (Jvm.Cond.selects "TwoPhaseCutsModel" ({ cls := "TwoPhaseCutsModel", name := "restart", desc := "(I)I" } : Jvm.MethodName) ({ cls := "TwoPhaseCutsModel", name := "restart", desc := "(I)I" } : Jvm.MethodName)) ∈ tw_tbl := tw_of 562 (by decide +kernel) (by decide +kernel)
theorem tw_563 : (Jvm.Cond.code ({ cls := "TwoPhaseCutsModel", name := "restart", desc := "(I)I" } : Jvm.MethodName) prog_8_method_28_code (2 : Nat) (Option.some Jvm.ClassFile.FieldType.int)) ∈ tw_tbl := tw_of 563 (by decide +kernel) (by decide +kernel)
theorem tw_564 : (Jvm.Cond.methodLink "TwoPhaseCutsLaw" (59 : Nat) ({ cls := "TwoPhaseCutsModel", name := "value", desc := "(I)I" } : Jvm.MethodName)) ∈ tw_tbl := tw_of 564 (by decide +kernel) (by decide +kernel)
theorem tw_565 : (Jvm.Cond.instanceMethod ({ cls := "TwoPhaseCutsModel", name := "value", desc := "(I)I" } : Jvm.MethodName)) ∈ tw_tbl := tw_of 565 (by decide +kernel) (by decide +kernel)
theorem tw_566 : (Jvm.Cond.selects "TwoPhaseCutsModel" ({ cls := "TwoPhaseCutsModel", name := "value", desc := "(I)I" } : Jvm.MethodName) ({ cls := "TwoPhaseCutsModel", name := "value", desc := "(I)I" } : Jvm.MethodName)) ∈ tw_tbl := tw_of 566 (by decide +kernel) (by decide +kernel)
theorem tw_567 : (Jvm.Cond.code ({ cls := "TwoPhaseCutsModel", name := "value", desc := "(I)I" } : Jvm.MethodName) prog_8_method_29_code (2 : Nat) (Option.some Jvm.ClassFile.FieldType.int)) ∈ tw_tbl := tw_of 567 (by decide +kernel) (by decide +kernel)
theorem tw_568 : (Jvm.Cond.methodLink "TwoPhaseCutsLaw" (63 : Nat) ({ cls := "TwoPhaseCutsModel", name := "kept", desc := "(I)I" } : Jvm.MethodName)) ∈ tw_tbl := tw_of 568 (by decide +kernel) (by decide +kernel)
theorem tw_569 : (Jvm.Cond.instanceMethod ({ cls := "TwoPhaseCutsModel", name := "kept", desc := "(I)I" } : Jvm.MethodName)) ∈ tw_tbl := tw_of 569 (by decide +kernel) (by decide +kernel)
theorem tw_570 : (Jvm.Cond.selects "TwoPhaseCutsModel" ({ cls := "TwoPhaseCutsModel", name := "kept", desc := "(I)I" } : Jvm.MethodName) ({ cls := "TwoPhaseCutsModel", name := "kept", desc := "(I)I" } : Jvm.MethodName)) ∈ tw_tbl := tw_of 570 (by decide +kernel) (by decide +kernel)
theorem tw_571 : (Jvm.Cond.code ({ cls := "TwoPhaseCutsModel", name := "kept", desc := "(I)I" } : Jvm.MethodName) prog_8_method_30_code (2 : Nat) (Option.some Jvm.ClassFile.FieldType.int)) ∈ tw_tbl := tw_of 571 (by decide +kernel) (by decide +kernel)
theorem tw_572 : (Jvm.Cond.methodLink "TwoPhaseCutsLaw" (68 : Nat) ({ cls := "TwoPhaseCutsModel", name := "label", desc := "(III)I" } : Jvm.MethodName)) ∈ tw_tbl := tw_of 572 (by decide +kernel) (by decide +kernel)
theorem tw_573 : (Jvm.Cond.instanceMethod ({ cls := "TwoPhaseCutsModel", name := "label", desc := "(III)I" } : Jvm.MethodName)) ∈ tw_tbl := tw_of 573 (by decide +kernel) (by decide +kernel)
theorem tw_574 : (Jvm.Cond.selects "TwoPhaseCutsModel" ({ cls := "TwoPhaseCutsModel", name := "label", desc := "(III)I" } : Jvm.MethodName) ({ cls := "TwoPhaseCutsModel", name := "label", desc := "(III)I" } : Jvm.MethodName)) ∈ tw_tbl := tw_of 574 (by decide +kernel) (by decide +kernel)
theorem tw_575 : (Jvm.Cond.code ({ cls := "TwoPhaseCutsModel", name := "label", desc := "(III)I" } : Jvm.MethodName) prog_8_method_31_code (5 : Nat) (Option.some Jvm.ClassFile.FieldType.int)) ∈ tw_tbl := tw_of 575 (by decide +kernel) (by decide +kernel)
theorem tw_576 : (Jvm.Cond.methodLink "TwoPhaseCutsLaw" (72 : Nat) ({ cls := "TwoPhaseCutsModel", name := "waiting", desc := "(II)I" } : Jvm.MethodName)) ∈ tw_tbl := tw_of 576 (by decide +kernel) (by decide +kernel)
theorem tw_577 : (Jvm.Cond.instanceMethod ({ cls := "TwoPhaseCutsModel", name := "waiting", desc := "(II)I" } : Jvm.MethodName)) ∈ tw_tbl := tw_of 577 (by decide +kernel) (by decide +kernel)
theorem tw_578 : (Jvm.Cond.selects "TwoPhaseCutsModel" ({ cls := "TwoPhaseCutsModel", name := "waiting", desc := "(II)I" } : Jvm.MethodName) ({ cls := "TwoPhaseCutsModel", name := "waiting", desc := "(II)I" } : Jvm.MethodName)) ∈ tw_tbl := tw_of 578 (by decide +kernel) (by decide +kernel)
theorem tw_579 : (Jvm.Cond.code ({ cls := "TwoPhaseCutsModel", name := "waiting", desc := "(II)I" } : Jvm.MethodName) prog_8_method_32_code (3 : Nat) (Option.some Jvm.ClassFile.FieldType.int)) ∈ tw_tbl := tw_of 579 (by decide +kernel) (by decide +kernel)
theorem tw_580 : (Jvm.Cond.methodLink "TwoPhaseCutsLaw" (77 : Nat) ({ cls := "TwoPhaseCutsModel", name := "down", desc := "(I)Z" } : Jvm.MethodName)) ∈ tw_tbl := tw_of 580 (by decide +kernel) (by decide +kernel)
theorem tw_581 : (Jvm.Cond.instanceMethod ({ cls := "TwoPhaseCutsModel", name := "down", desc := "(I)Z" } : Jvm.MethodName)) ∈ tw_tbl := tw_of 581 (by decide +kernel) (by decide +kernel)
theorem tw_582 : (Jvm.Cond.selects "TwoPhaseCutsModel" ({ cls := "TwoPhaseCutsModel", name := "down", desc := "(I)Z" } : Jvm.MethodName) ({ cls := "TwoPhaseCutsModel", name := "down", desc := "(I)Z" } : Jvm.MethodName)) ∈ tw_tbl := tw_of 582 (by decide +kernel) (by decide +kernel)
theorem tw_583 : (Jvm.Cond.code ({ cls := "TwoPhaseCutsModel", name := "down", desc := "(I)Z" } : Jvm.MethodName) prog_8_method_33_code (2 : Nat) (Option.some Jvm.ClassFile.FieldType.boolean)) ∈ tw_tbl := tw_of 583 (by decide +kernel) (by decide +kernel)
theorem tw_584 : (Jvm.Cond.methodLink "TwoPhaseCutsLaw" (81 : Nat) ({ cls := "TwoPhaseCutsModel", name := "instance", desc := "(I)I" } : Jvm.MethodName)) ∈ tw_tbl := tw_of 584 (by decide +kernel) (by decide +kernel)
theorem tw_585 : (Jvm.Cond.instanceMethod ({ cls := "TwoPhaseCutsModel", name := "instance", desc := "(I)I" } : Jvm.MethodName)) ∈ tw_tbl := tw_of 585 (by decide +kernel) (by decide +kernel)
theorem tw_586 : (Jvm.Cond.selects "TwoPhaseCutsModel" ({ cls := "TwoPhaseCutsModel", name := "instance", desc := "(I)I" } : Jvm.MethodName) ({ cls := "TwoPhaseCutsModel", name := "instance", desc := "(I)I" } : Jvm.MethodName)) ∈ tw_tbl := tw_of 586 (by decide +kernel) (by decide +kernel)
theorem tw_587 : (Jvm.Cond.code ({ cls := "TwoPhaseCutsModel", name := "instance", desc := "(I)I" } : Jvm.MethodName) prog_8_method_34_code (2 : Nat) (Option.some Jvm.ClassFile.FieldType.int)) ∈ tw_tbl := tw_of 587 (by decide +kernel) (by decide +kernel)
theorem tw_588 : (Jvm.Cond.methodLink "TwoPhaseCutsLaw" (85 : Nat) ({ cls := "TwoPhaseCutsModel", name := "decision", desc := "(I)I" } : Jvm.MethodName)) ∈ tw_tbl := tw_of 588 (by decide +kernel) (by decide +kernel)
theorem tw_589 : (Jvm.Cond.instanceMethod ({ cls := "TwoPhaseCutsModel", name := "decision", desc := "(I)I" } : Jvm.MethodName)) ∈ tw_tbl := tw_of 589 (by decide +kernel) (by decide +kernel)
theorem tw_590 : (Jvm.Cond.selects "TwoPhaseCutsModel" ({ cls := "TwoPhaseCutsModel", name := "decision", desc := "(I)I" } : Jvm.MethodName) ({ cls := "TwoPhaseCutsModel", name := "decision", desc := "(I)I" } : Jvm.MethodName)) ∈ tw_tbl := tw_of 590 (by decide +kernel) (by decide +kernel)
theorem tw_591 : (Jvm.Cond.code ({ cls := "TwoPhaseCutsModel", name := "decision", desc := "(I)I" } : Jvm.MethodName) prog_8_method_35_code (2 : Nat) (Option.some Jvm.ClassFile.FieldType.int)) ∈ tw_tbl := tw_of 591 (by decide +kernel) (by decide +kernel)
theorem tw_592 : (Jvm.Cond.methodLink "TwoPhaseCutsLaw" (89 : Nat) ({ cls := "TwoPhaseCutsModel", name := "notes", desc := "()I" } : Jvm.MethodName)) ∈ tw_tbl := tw_of 592 (by decide +kernel) (by decide +kernel)
theorem tw_593 : (Jvm.Cond.instanceMethod ({ cls := "TwoPhaseCutsModel", name := "notes", desc := "()I" } : Jvm.MethodName)) ∈ tw_tbl := tw_of 593 (by decide +kernel) (by decide +kernel)
theorem tw_594 : (Jvm.Cond.selects "TwoPhaseCutsModel" ({ cls := "TwoPhaseCutsModel", name := "notes", desc := "()I" } : Jvm.MethodName) ({ cls := "TwoPhaseCutsModel", name := "notes", desc := "()I" } : Jvm.MethodName)) ∈ tw_tbl := tw_of 594 (by decide +kernel) (by decide +kernel)
theorem tw_595 : (Jvm.Cond.code ({ cls := "TwoPhaseCutsModel", name := "notes", desc := "()I" } : Jvm.MethodName) prog_8_method_36_code (1 : Nat) (Option.some Jvm.ClassFile.FieldType.int)) ∈ tw_tbl := tw_of 595 (by decide +kernel) (by decide +kernel)
theorem tw_596 : (Jvm.Cond.methodLink "TwoPhaseCutsLaw" (93 : Nat) ({ cls := "TwoPhaseCutsModel", name := "times", desc := "(II)I" } : Jvm.MethodName)) ∈ tw_tbl := tw_of 596 (by decide +kernel) (by decide +kernel)
theorem tw_597 : (Jvm.Cond.instanceMethod ({ cls := "TwoPhaseCutsModel", name := "times", desc := "(II)I" } : Jvm.MethodName)) ∈ tw_tbl := tw_of 597 (by decide +kernel) (by decide +kernel)
theorem tw_598 : (Jvm.Cond.selects "TwoPhaseCutsModel" ({ cls := "TwoPhaseCutsModel", name := "times", desc := "(II)I" } : Jvm.MethodName) ({ cls := "TwoPhaseCutsModel", name := "times", desc := "(II)I" } : Jvm.MethodName)) ∈ tw_tbl := tw_of 598 (by decide +kernel) (by decide +kernel)
theorem tw_599 : (Jvm.Cond.code ({ cls := "TwoPhaseCutsModel", name := "times", desc := "(II)I" } : Jvm.MethodName) prog_8_method_37_code (3 : Nat) (Option.some Jvm.ClassFile.FieldType.int)) ∈ tw_tbl := tw_of 599 (by decide +kernel) (by decide +kernel)
abbrev y_cell : MethodName := ⟨"TwoPhaseCutsLaw", "cell", "([II)I"⟩
abbrev rm_cell : Room := { frames := 0, cells := 0, slots := 0, locals := 0 }
def cl_v (L : Nat) (xs : Nat → Int32) : Int32 := if 0 < L then xs 0 else 0
set_option maxHeartbeats 4000000 in
set_option maxRecDepth 100000 in
theorem c_cell (l : Launch) (b L : Nat) (xs : Nat → Int32) (Hc : Heap) (hbl : b < Hc.size) (hL : L ≤ 2049) :
    Met l y_cell (Cond.code y_cell method_2_code 2 (some .int) :: tw_tbl) rm_cell (va_Pc [.ref b, .int 0] (fun U => U.heap = Hc ∧ va_X b L xs U U.heap))
      (va_Qi (fun r (_ : Unit) => r = cl_v L xs) (fun _ t => t.heap = Hc) (fun _ => False)) 0 0 (fun _ => False) := by
  refine Met.ofW (cc := method_2_code) (maxL := 2) (ret := (some .int)) (by decide) rfl ?_
  intro p e s m args below meth c s₁ B hml hv
  obtain ⟨rfl, hH, hX⟩ := hv
  subst hH
  have hx := B.exec
  have hb := B.bytes
  have hr := B.returns
  have hlocks := B.notSynchronized
  have hS : va_S (fun _ => False) s.heap s.heap [] := va_S.rf
  have hl := lv_entry ([.ref b, .int 0]) (n := 2) (Nat.le_of_ble_eq_true rfl)
  rw [lg_entry_eq]
  generalize (lg_sl ([.ref b, .int 0]) ++ List.replicate (2 - (lg_sl ([.ref b, .int 0])).length) Slot.unset).toArray = ls at hl ⊢
  have hl : lv_has ls 2 [(0, .ref b), (1, .int 0)] := hl
  clear B
  refine lv_iload_n hx hb d_cell_0 rfl (lv_at hl 1 rfl) ?_
  refine lv_aload_n hx hb d_cell_1 rfl (lv_at hl 0 rfl) ?_
  refine va_slen hx hb hX hbl (fun h => h) hS d_cell_2 ?_
  refine lv_icmp_ge (tgt := 12) hx hb d_cell_3 (by decide) (fun hc => ?_) (fun hc => ?_)
  · have h0 : ¬ 0 < L := fun h => absurd hc (by rw [← nI_0]; exact nI_ge h (by omega))
    refine lv_iconst (v := (0 : Int32)) hx hb d_cell_12 (by decide) ?_
    exact W.iret (v := 0) hx hb hr (fun t ht hw => ⟨⟨0, (), rfl, by rw [cl_v, if_neg h0], ht⟩, hS.F ht⟩) hS.2.2 d_cell_13
  · have h0 : 0 < L := by
      rcases Nat.eq_zero_or_pos L with rfl | h
      · exact absurd (by decide) hc
      · exact h
    refine lv_aload_n hx hb d_cell_6 rfl (lv_at hl 0 rfl) ?_
    refine lv_iload_n hx hb d_cell_7 rfl (lv_at hl 1 rfl) ?_
    refine va_sld hx hb hX hbl (fun h => h) hS (by rw [← nI_0]; exact vp_in_nI h0 (by omega)) d_cell_8 ?_
    refine lv_goto (tgt := 13) hx hb d_cell_9 (by decide) ?_
    exact W.iret (v := xs 0) hx hb hr (fun t ht hw => ⟨⟨xs 0, (), rfl, by rw [cl_v, if_pos h0], ht⟩, hS.F ht⟩) hS.2.2 d_cell_13
theorem cl_n (a : Int32) : ∃ n : Nat, 2 ≤ n ∧ n ≤ 5 ∧ (if (2 : Int32) < (if a < 5 then a else 5) then (if a < 5 then a else 5) else 2) = nI n ∧ (if a < 2 then (2 : Int32) else if 5 < a then 5 else a) = nI n := by
  have e2 : (2 : Int32).toInt = 2 := by decide
  have e5 : (5 : Int32).toInt = 5 := by decide
  by_cases h2 : a < 2
  · have h5 : a < 5 := by
      rw [Int32.lt_iff_toInt_lt, e5]
      rw [Int32.lt_iff_toInt_lt, e2] at h2
      omega
    refine ⟨2, by decide, by decide, ?_, ?_⟩
    · rw [if_pos h5, if_neg (fun h => by rw [Int32.lt_iff_toInt_lt] at h h2; omega)]; rfl
    · rw [if_pos h2]; rfl
  · by_cases h5 : 5 < a
    · refine ⟨5, by decide, by decide, ?_, ?_⟩
      · have h5n : ¬ a < 5 := fun h => by rw [Int32.lt_iff_toInt_lt] at h h5; omega
        rw [if_neg h5n]
        decide
      · rw [if_neg h2, if_pos h5]; rfl
    · have h2' := h2
      have h5' := h5
      rw [Int32.lt_iff_toInt_lt, e2] at h2'
      rw [Int32.lt_iff_toInt_lt, e5] at h5'
      rcases (show a.toInt = 2 ∨ a.toInt = 3 ∨ a.toInt = 4 ∨ a.toInt = 5 by omega) with h | h | h | h
      · have ha : a = 2 := Int32.toInt_inj.mp (h.trans (by decide))
        subst ha
        exact ⟨2, by decide, by decide, by decide, by decide⟩
      · have ha : a = 3 := Int32.toInt_inj.mp (h.trans (by decide))
        subst ha
        exact ⟨3, by decide, by decide, by decide, by decide⟩
      · have ha : a = 4 := Int32.toInt_inj.mp (h.trans (by decide))
        subst ha
        exact ⟨4, by decide, by decide, by decide, by decide⟩
      · have ha : a = 5 := Int32.toInt_inj.mp (h.trans (by decide))
        subst ha
        exact ⟨5, by decide, by decide, by decide, by decide⟩
theorem cl_gt {L i : Nat} (hL : L ≤ 2049) (hi : i ≤ 3000) : nI L - nI 4 < nI i ↔ L < i + 4 := by
  have e4 : (nI L - nI 4).toInt = (L : Int) - 4 := by
    rw [Int32.toInt_sub, nI_toInt (by omega), nI_toInt (by omega)]
    rw [Int.bmod_def]
    split <;> omega
  rw [Int32.lt_iff_toInt_lt, e4, nI_toInt (by omega)]
  omega

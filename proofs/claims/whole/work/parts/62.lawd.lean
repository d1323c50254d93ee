theorem d_Law_law_0 : decode code 0 = .ok (.new 7, 3) := by decide +kernel
theorem d_Law_law_3 : decode code 3 = .ok (.dup, 1) := by decide +kernel
theorem d_Law_law_4 : decode code 4 = .ok (.aload_n 0, 1) := by decide +kernel
theorem d_Law_law_5 : decode code 5 = .ok (.iconst 0, 1) := by decide +kernel
theorem d_Law_law_6 : decode code 6 = .ok (.invokestatic 9, 3) := by decide +kernel
theorem d_Law_law_9 : decode code 9 = .ok (.aload_n 0, 1) := by decide +kernel
theorem d_Law_law_10 : decode code 10 = .ok (.iconst 1, 1) := by decide +kernel
theorem d_Law_law_11 : decode code 11 = .ok (.invokestatic 9, 3) := by decide +kernel
theorem d_Law_law_14 : decode code 14 = .ok (.invokespecial 15, 3) := by decide +kernel
theorem d_Law_law_17 : decode code 17 = .ok (.astore_n 1, 1) := by decide +kernel
theorem d_Law_law_18 : decode code 18 = .ok (.new 18, 3) := by decide +kernel
theorem d_Law_law_21 : decode code 21 = .ok (.dup, 1) := by decide +kernel
theorem d_Law_law_22 : decode code 22 = .ok (.aload_n 0, 1) := by decide +kernel
theorem d_Law_law_23 : decode code 23 = .ok (.iconst 0, 1) := by decide +kernel
theorem d_Law_law_24 : decode code 24 = .ok (.invokestatic 9, 3) := by decide +kernel
theorem d_Law_law_27 : decode code 27 = .ok (.aload_n 0, 1) := by decide +kernel
theorem d_Law_law_28 : decode code 28 = .ok (.iconst 1, 1) := by decide +kernel
theorem d_Law_law_29 : decode code 29 = .ok (.invokestatic 9, 3) := by decide +kernel
theorem d_Law_law_32 : decode code 32 = .ok (.invokespecial 20, 3) := by decide +kernel
theorem d_Law_law_35 : decode code 35 = .ok (.astore_n 2, 1) := by decide +kernel
theorem d_Law_law_36 : decode code 36 = .ok (.iconst 2, 1) := by decide +kernel
theorem d_Law_law_37 : decode code 37 = .ok (.istore_n 3, 1) := by decide +kernel
theorem d_Law_law_38 : decode code 38 = .ok (.iload_n 3, 1) := by decide +kernel
theorem d_Law_law_39 : decode code 39 = .ok (.aload_n 0, 1) := by decide +kernel
theorem d_Law_law_40 : decode code 40 = .ok (.arraylength, 1) := by decide +kernel
theorem d_Law_law_41 : decode code 41 = .ok (.bipush 6, 2) := by decide +kernel
theorem d_Law_law_43 : decode code 43 = .ok (.isub, 1) := by decide +kernel
theorem d_Law_law_44 : decode code 44 = .ok (.if_icmp .gt 681, 3) := by decide +kernel
theorem d_Law_law_47 : decode code 47 = .ok (.aload_n 0, 1) := by decide +kernel
theorem d_Law_law_48 : decode code 48 = .ok (.iload_n 3, 1) := by decide +kernel
theorem d_Law_law_49 : decode code 49 = .ok (.iaload, 1) := by decide +kernel
theorem d_Law_law_50 : decode code 50 = .ok (.bipush 31, 2) := by decide +kernel
theorem d_Law_law_52 : decode code 52 = .ok (.iand, 1) := by decide +kernel
theorem d_Law_law_53 : decode code 53 = .ok (.tableswitch 666 0 18 #[91, 154, 187, 220, 263, 322, 355, 388, 401, 435, 448, 471, 504, 527, 550, 573, 586, 619, 653], 91) := by decide +kernel
theorem d_Law_law_144 : decode code 144 = .ok (.aload_n 1, 1) := by decide +kernel
theorem d_Law_law_145 : decode code 145 = .ok (.aload_n 0, 1) := by decide +kernel
theorem d_Law_law_146 : decode code 146 = .ok (.iload_n 3, 1) := by decide +kernel
theorem d_Law_law_147 : decode code 147 = .ok (.iconst 1, 1) := by decide +kernel
theorem d_Law_law_148 : decode code 148 = .ok (.iadd, 1) := by decide +kernel
theorem d_Law_law_149 : decode code 149 = .ok (.iaload, 1) := by decide +kernel
theorem d_Law_law_150 : decode code 150 = .ok (.aload_n 0, 1) := by decide +kernel
theorem d_Law_law_151 : decode code 151 = .ok (.iload_n 3, 1) := by decide +kernel
theorem d_Law_law_152 : decode code 152 = .ok (.iconst 2, 1) := by decide +kernel
theorem d_Law_law_153 : decode code 153 = .ok (.iadd, 1) := by decide +kernel
theorem d_Law_law_154 : decode code 154 = .ok (.iaload, 1) := by decide +kernel
theorem d_Law_law_155 : decode code 155 = .ok (.aload_n 0, 1) := by decide +kernel
theorem d_Law_law_156 : decode code 156 = .ok (.iload_n 3, 1) := by decide +kernel
theorem d_Law_law_157 : decode code 157 = .ok (.iconst 3, 1) := by decide +kernel
theorem d_Law_law_158 : decode code 158 = .ok (.iadd, 1) := by decide +kernel
theorem d_Law_law_159 : decode code 159 = .ok (.iaload, 1) := by decide +kernel
theorem d_Law_law_160 : decode code 160 = .ok (.aload_n 0, 1) := by decide +kernel
theorem d_Law_law_161 : decode code 161 = .ok (.iload_n 3, 1) := by decide +kernel
theorem d_Law_law_162 : decode code 162 = .ok (.iconst 4, 1) := by decide +kernel
theorem d_Law_law_163 : decode code 163 = .ok (.iadd, 1) := by decide +kernel
theorem d_Law_law_164 : decode code 164 = .ok (.iaload, 1) := by decide +kernel
theorem d_Law_law_165 : decode code 165 = .ok (.aload_n 0, 1) := by decide +kernel
theorem d_Law_law_166 : decode code 166 = .ok (.iload_n 3, 1) := by decide +kernel
theorem d_Law_law_167 : decode code 167 = .ok (.iconst 5, 1) := by decide +kernel
theorem d_Law_law_168 : decode code 168 = .ok (.iadd, 1) := by decide +kernel
theorem d_Law_law_169 : decode code 169 = .ok (.iaload, 1) := by decide +kernel
theorem d_Law_law_170 : decode code 170 = .ok (.invokevirtual 21, 3) := by decide +kernel
theorem d_Law_law_173 : decode code 173 = .ok (.aload_n 2, 1) := by decide +kernel
theorem d_Law_law_174 : decode code 174 = .ok (.aload_n 0, 1) := by decide +kernel
theorem d_Law_law_175 : decode code 175 = .ok (.iload_n 3, 1) := by decide +kernel
theorem d_Law_law_176 : decode code 176 = .ok (.iconst 1, 1) := by decide +kernel
theorem d_Law_law_177 : decode code 177 = .ok (.iadd, 1) := by decide +kernel
theorem d_Law_law_178 : decode code 178 = .ok (.iaload, 1) := by decide +kernel
theorem d_Law_law_179 : decode code 179 = .ok (.aload_n 0, 1) := by decide +kernel
theorem d_Law_law_180 : decode code 180 = .ok (.iload_n 3, 1) := by decide +kernel
theorem d_Law_law_181 : decode code 181 = .ok (.iconst 2, 1) := by decide +kernel
theorem d_Law_law_182 : decode code 182 = .ok (.iadd, 1) := by decide +kernel
theorem d_Law_law_183 : decode code 183 = .ok (.iaload, 1) := by decide +kernel
theorem d_Law_law_184 : decode code 184 = .ok (.aload_n 0, 1) := by decide +kernel
theorem d_Law_law_185 : decode code 185 = .ok (.iload_n 3, 1) := by decide +kernel
theorem d_Law_law_186 : decode code 186 = .ok (.iconst 3, 1) := by decide +kernel
theorem d_Law_law_187 : decode code 187 = .ok (.iadd, 1) := by decide +kernel
theorem d_Law_law_188 : decode code 188 = .ok (.iaload, 1) := by decide +kernel
theorem d_Law_law_189 : decode code 189 = .ok (.aload_n 0, 1) := by decide +kernel
theorem d_Law_law_190 : decode code 190 = .ok (.iload_n 3, 1) := by decide +kernel
theorem d_Law_law_191 : decode code 191 = .ok (.iconst 4, 1) := by decide +kernel
theorem d_Law_law_192 : decode code 192 = .ok (.iadd, 1) := by decide +kernel
theorem d_Law_law_193 : decode code 193 = .ok (.iaload, 1) := by decide +kernel
theorem d_Law_law_194 : decode code 194 = .ok (.aload_n 0, 1) := by decide +kernel
theorem d_Law_law_195 : decode code 195 = .ok (.iload_n 3, 1) := by decide +kernel
theorem d_Law_law_196 : decode code 196 = .ok (.iconst 5, 1) := by decide +kernel
theorem d_Law_law_197 : decode code 197 = .ok (.iadd, 1) := by decide +kernel
theorem d_Law_law_198 : decode code 198 = .ok (.iaload, 1) := by decide +kernel
theorem d_Law_law_199 : decode code 199 = .ok (.invokevirtual 25, 3) := by decide +kernel
theorem d_Law_law_202 : decode code 202 = .ok (.if_icmp .eq 517, 3) := by decide +kernel
theorem d_Law_law_205 : decode code 205 = .ok (.iconst 0, 1) := by decide +kernel
theorem d_Law_law_206 : decode code 206 = .ok (.ireturn, 1) := by decide +kernel
theorem d_Law_law_207 : decode code 207 = .ok (.aload_n 1, 1) := by decide +kernel
theorem d_Law_law_208 : decode code 208 = .ok (.aload_n 0, 1) := by decide +kernel
theorem d_Law_law_209 : decode code 209 = .ok (.iload_n 3, 1) := by decide +kernel
theorem d_Law_law_210 : decode code 210 = .ok (.iconst 1, 1) := by decide +kernel
theorem d_Law_law_211 : decode code 211 = .ok (.iadd, 1) := by decide +kernel
theorem d_Law_law_212 : decode code 212 = .ok (.iaload, 1) := by decide +kernel
theorem d_Law_law_213 : decode code 213 = .ok (.aload_n 0, 1) := by decide +kernel
theorem d_Law_law_214 : decode code 214 = .ok (.iload_n 3, 1) := by decide +kernel
theorem d_Law_law_215 : decode code 215 = .ok (.iconst 2, 1) := by decide +kernel
theorem d_Law_law_216 : decode code 216 = .ok (.iadd, 1) := by decide +kernel
theorem d_Law_law_217 : decode code 217 = .ok (.iaload, 1) := by decide +kernel
theorem d_Law_law_218 : decode code 218 = .ok (.invokevirtual 26, 3) := by decide +kernel
theorem d_Law_law_221 : decode code 221 = .ok (.aload_n 2, 1) := by decide +kernel
theorem d_Law_law_222 : decode code 222 = .ok (.aload_n 0, 1) := by decide +kernel
theorem d_Law_law_223 : decode code 223 = .ok (.iload_n 3, 1) := by decide +kernel
theorem d_Law_law_224 : decode code 224 = .ok (.iconst 1, 1) := by decide +kernel
theorem d_Law_law_225 : decode code 225 = .ok (.iadd, 1) := by decide +kernel
theorem d_Law_law_226 : decode code 226 = .ok (.iaload, 1) := by decide +kernel
theorem d_Law_law_227 : decode code 227 = .ok (.aload_n 0, 1) := by decide +kernel
theorem d_Law_law_228 : decode code 228 = .ok (.iload_n 3, 1) := by decide +kernel
theorem d_Law_law_229 : decode code 229 = .ok (.iconst 2, 1) := by decide +kernel
theorem d_Law_law_230 : decode code 230 = .ok (.iadd, 1) := by decide +kernel
theorem d_Law_law_231 : decode code 231 = .ok (.iaload, 1) := by decide +kernel
theorem d_Law_law_232 : decode code 232 = .ok (.invokevirtual 30, 3) := by decide +kernel
theorem d_Law_law_235 : decode code 235 = .ok (.if_icmp .eq 484, 3) := by decide +kernel
theorem d_Law_law_238 : decode code 238 = .ok (.iconst 0, 1) := by decide +kernel
theorem d_Law_law_239 : decode code 239 = .ok (.ireturn, 1) := by decide +kernel
theorem d_Law_law_240 : decode code 240 = .ok (.aload_n 1, 1) := by decide +kernel
theorem d_Law_law_241 : decode code 241 = .ok (.aload_n 0, 1) := by decide +kernel
theorem d_Law_law_242 : decode code 242 = .ok (.iload_n 3, 1) := by decide +kernel
theorem d_Law_law_243 : decode code 243 = .ok (.iconst 1, 1) := by decide +kernel
theorem d_Law_law_244 : decode code 244 = .ok (.iadd, 1) := by decide +kernel
theorem d_Law_law_245 : decode code 245 = .ok (.iaload, 1) := by decide +kernel
theorem d_Law_law_246 : decode code 246 = .ok (.aload_n 0, 1) := by decide +kernel
theorem d_Law_law_247 : decode code 247 = .ok (.iload_n 3, 1) := by decide +kernel
theorem d_Law_law_248 : decode code 248 = .ok (.iconst 2, 1) := by decide +kernel
theorem d_Law_law_249 : decode code 249 = .ok (.iadd, 1) := by decide +kernel
theorem d_Law_law_250 : decode code 250 = .ok (.iaload, 1) := by decide +kernel
theorem d_Law_law_251 : decode code 251 = .ok (.invokevirtual 31, 3) := by decide +kernel
theorem d_Law_law_254 : decode code 254 = .ok (.aload_n 2, 1) := by decide +kernel
theorem d_Law_law_255 : decode code 255 = .ok (.aload_n 0, 1) := by decide +kernel
theorem d_Law_law_256 : decode code 256 = .ok (.iload_n 3, 1) := by decide +kernel
theorem d_Law_law_257 : decode code 257 = .ok (.iconst 1, 1) := by decide +kernel
theorem d_Law_law_258 : decode code 258 = .ok (.iadd, 1) := by decide +kernel
theorem d_Law_law_259 : decode code 259 = .ok (.iaload, 1) := by decide +kernel
theorem d_Law_law_260 : decode code 260 = .ok (.aload_n 0, 1) := by decide +kernel
theorem d_Law_law_261 : decode code 261 = .ok (.iload_n 3, 1) := by decide +kernel
theorem d_Law_law_262 : decode code 262 = .ok (.iconst 2, 1) := by decide +kernel
theorem d_Law_law_263 : decode code 263 = .ok (.iadd, 1) := by decide +kernel
theorem d_Law_law_264 : decode code 264 = .ok (.iaload, 1) := by decide +kernel
theorem d_Law_law_265 : decode code 265 = .ok (.invokevirtual 35, 3) := by decide +kernel
theorem d_Law_law_268 : decode code 268 = .ok (.if_icmp .eq 451, 3) := by decide +kernel
theorem d_Law_law_271 : decode code 271 = .ok (.iconst 0, 1) := by decide +kernel
theorem d_Law_law_272 : decode code 272 = .ok (.ireturn, 1) := by decide +kernel
theorem d_Law_law_273 : decode code 273 = .ok (.aload_n 1, 1) := by decide +kernel
theorem d_Law_law_274 : decode code 274 = .ok (.aload_n 0, 1) := by decide +kernel
theorem d_Law_law_275 : decode code 275 = .ok (.iload_n 3, 1) := by decide +kernel
theorem d_Law_law_276 : decode code 276 = .ok (.iconst 1, 1) := by decide +kernel
theorem d_Law_law_277 : decode code 277 = .ok (.iadd, 1) := by decide +kernel
theorem d_Law_law_278 : decode code 278 = .ok (.iaload, 1) := by decide +kernel
theorem d_Law_law_279 : decode code 279 = .ok (.aload_n 0, 1) := by decide +kernel
theorem d_Law_law_280 : decode code 280 = .ok (.iload_n 3, 1) := by decide +kernel
theorem d_Law_law_281 : decode code 281 = .ok (.iconst 2, 1) := by decide +kernel
theorem d_Law_law_282 : decode code 282 = .ok (.iadd, 1) := by decide +kernel
theorem d_Law_law_283 : decode code 283 = .ok (.iaload, 1) := by decide +kernel
theorem d_Law_law_284 : decode code 284 = .ok (.aload_n 0, 1) := by decide +kernel
theorem d_Law_law_285 : decode code 285 = .ok (.iload_n 3, 1) := by decide +kernel
theorem d_Law_law_286 : decode code 286 = .ok (.iconst 3, 1) := by decide +kernel
theorem d_Law_law_287 : decode code 287 = .ok (.iadd, 1) := by decide +kernel
theorem d_Law_law_288 : decode code 288 = .ok (.iaload, 1) := by decide +kernel
theorem d_Law_law_289 : decode code 289 = .ok (.invokevirtual 36, 3) := by decide +kernel
theorem d_Law_law_292 : decode code 292 = .ok (.aload_n 2, 1) := by decide +kernel
theorem d_Law_law_293 : decode code 293 = .ok (.aload_n 0, 1) := by decide +kernel
theorem d_Law_law_294 : decode code 294 = .ok (.iload_n 3, 1) := by decide +kernel
theorem d_Law_law_295 : decode code 295 = .ok (.iconst 1, 1) := by decide +kernel
theorem d_Law_law_296 : decode code 296 = .ok (.iadd, 1) := by decide +kernel
theorem d_Law_law_297 : decode code 297 = .ok (.iaload, 1) := by decide +kernel
theorem d_Law_law_298 : decode code 298 = .ok (.aload_n 0, 1) := by decide +kernel
theorem d_Law_law_299 : decode code 299 = .ok (.iload_n 3, 1) := by decide +kernel
theorem d_Law_law_300 : decode code 300 = .ok (.iconst 2, 1) := by decide +kernel
theorem d_Law_law_301 : decode code 301 = .ok (.iadd, 1) := by decide +kernel
theorem d_Law_law_302 : decode code 302 = .ok (.iaload, 1) := by decide +kernel
theorem d_Law_law_303 : decode code 303 = .ok (.aload_n 0, 1) := by decide +kernel
theorem d_Law_law_304 : decode code 304 = .ok (.iload_n 3, 1) := by decide +kernel
theorem d_Law_law_305 : decode code 305 = .ok (.iconst 3, 1) := by decide +kernel
theorem d_Law_law_306 : decode code 306 = .ok (.iadd, 1) := by decide +kernel
theorem d_Law_law_307 : decode code 307 = .ok (.iaload, 1) := by decide +kernel
theorem d_Law_law_308 : decode code 308 = .ok (.invokevirtual 40, 3) := by decide +kernel
theorem d_Law_law_311 : decode code 311 = .ok (.if_icmp .eq 408, 3) := by decide +kernel
theorem d_Law_law_314 : decode code 314 = .ok (.iconst 0, 1) := by decide +kernel
theorem d_Law_law_315 : decode code 315 = .ok (.ireturn, 1) := by decide +kernel
theorem d_Law_law_316 : decode code 316 = .ok (.aload_n 1, 1) := by decide +kernel
theorem d_Law_law_317 : decode code 317 = .ok (.aload_n 0, 1) := by decide +kernel
theorem d_Law_law_318 : decode code 318 = .ok (.iload_n 3, 1) := by decide +kernel
theorem d_Law_law_319 : decode code 319 = .ok (.iconst 1, 1) := by decide +kernel
theorem d_Law_law_320 : decode code 320 = .ok (.iadd, 1) := by decide +kernel
theorem d_Law_law_321 : decode code 321 = .ok (.iaload, 1) := by decide +kernel
theorem d_Law_law_322 : decode code 322 = .ok (.aload_n 0, 1) := by decide +kernel
theorem d_Law_law_323 : decode code 323 = .ok (.iload_n 3, 1) := by decide +kernel
theorem d_Law_law_324 : decode code 324 = .ok (.iconst 2, 1) := by decide +kernel
theorem d_Law_law_325 : decode code 325 = .ok (.iadd, 1) := by decide +kernel
theorem d_Law_law_326 : decode code 326 = .ok (.iaload, 1) := by decide +kernel
theorem d_Law_law_327 : decode code 327 = .ok (.aload_n 0, 1) := by decide +kernel
theorem d_Law_law_328 : decode code 328 = .ok (.iload_n 3, 1) := by decide +kernel
theorem d_Law_law_329 : decode code 329 = .ok (.iconst 3, 1) := by decide +kernel
theorem d_Law_law_330 : decode code 330 = .ok (.iadd, 1) := by decide +kernel
theorem d_Law_law_331 : decode code 331 = .ok (.iaload, 1) := by decide +kernel
theorem d_Law_law_332 : decode code 332 = .ok (.ifCond .eq 7, 3) := by decide +kernel
theorem d_Law_law_335 : decode code 335 = .ok (.iconst 1, 1) := by decide +kernel
theorem d_Law_law_336 : decode code 336 = .ok (.goto 4, 3) := by decide +kernel
theorem d_Law_law_339 : decode code 339 = .ok (.iconst 0, 1) := by decide +kernel
theorem d_Law_law_340 : decode code 340 = .ok (.invokevirtual 41, 3) := by decide +kernel
theorem d_Law_law_343 : decode code 343 = .ok (.aload_n 2, 1) := by decide +kernel
theorem d_Law_law_344 : decode code 344 = .ok (.aload_n 0, 1) := by decide +kernel
theorem d_Law_law_345 : decode code 345 = .ok (.iload_n 3, 1) := by decide +kernel
theorem d_Law_law_346 : decode code 346 = .ok (.iconst 1, 1) := by decide +kernel
theorem d_Law_law_347 : decode code 347 = .ok (.iadd, 1) := by decide +kernel
theorem d_Law_law_348 : decode code 348 = .ok (.iaload, 1) := by decide +kernel
theorem d_Law_law_349 : decode code 349 = .ok (.aload_n 0, 1) := by decide +kernel
theorem d_Law_law_350 : decode code 350 = .ok (.iload_n 3, 1) := by decide +kernel
theorem d_Law_law_351 : decode code 351 = .ok (.iconst 2, 1) := by decide +kernel
theorem d_Law_law_352 : decode code 352 = .ok (.iadd, 1) := by decide +kernel
theorem d_Law_law_353 : decode code 353 = .ok (.iaload, 1) := by decide +kernel
theorem d_Law_law_354 : decode code 354 = .ok (.aload_n 0, 1) := by decide +kernel
theorem d_Law_law_355 : decode code 355 = .ok (.iload_n 3, 1) := by decide +kernel
theorem d_Law_law_356 : decode code 356 = .ok (.iconst 3, 1) := by decide +kernel
theorem d_Law_law_357 : decode code 357 = .ok (.iadd, 1) := by decide +kernel
theorem d_Law_law_358 : decode code 358 = .ok (.iaload, 1) := by decide +kernel
theorem d_Law_law_359 : decode code 359 = .ok (.ifCond .eq 7, 3) := by decide +kernel
theorem d_Law_law_362 : decode code 362 = .ok (.iconst 1, 1) := by decide +kernel
theorem d_Law_law_363 : decode code 363 = .ok (.goto 4, 3) := by decide +kernel
theorem d_Law_law_366 : decode code 366 = .ok (.iconst 0, 1) := by decide +kernel
theorem d_Law_law_367 : decode code 367 = .ok (.invokevirtual 45, 3) := by decide +kernel
theorem d_Law_law_370 : decode code 370 = .ok (.if_icmp .eq 349, 3) := by decide +kernel
theorem d_Law_law_373 : decode code 373 = .ok (.iconst 0, 1) := by decide +kernel
theorem d_Law_law_374 : decode code 374 = .ok (.ireturn, 1) := by decide +kernel
theorem d_Law_law_375 : decode code 375 = .ok (.aload_n 1, 1) := by decide +kernel
theorem d_Law_law_376 : decode code 376 = .ok (.aload_n 0, 1) := by decide +kernel
theorem d_Law_law_377 : decode code 377 = .ok (.iload_n 3, 1) := by decide +kernel
theorem d_Law_law_378 : decode code 378 = .ok (.iconst 1, 1) := by decide +kernel
theorem d_Law_law_379 : decode code 379 = .ok (.iadd, 1) := by decide +kernel
theorem d_Law_law_380 : decode code 380 = .ok (.iaload, 1) := by decide +kernel
theorem d_Law_law_381 : decode code 381 = .ok (.aload_n 0, 1) := by decide +kernel
theorem d_Law_law_382 : decode code 382 = .ok (.iload_n 3, 1) := by decide +kernel
theorem d_Law_law_383 : decode code 383 = .ok (.iconst 2, 1) := by decide +kernel
theorem d_Law_law_384 : decode code 384 = .ok (.iadd, 1) := by decide +kernel
theorem d_Law_law_385 : decode code 385 = .ok (.iaload, 1) := by decide +kernel
theorem d_Law_law_386 : decode code 386 = .ok (.invokevirtual 46, 3) := by decide +kernel
theorem d_Law_law_389 : decode code 389 = .ok (.aload_n 2, 1) := by decide +kernel
theorem d_Law_law_390 : decode code 390 = .ok (.aload_n 0, 1) := by decide +kernel
theorem d_Law_law_391 : decode code 391 = .ok (.iload_n 3, 1) := by decide +kernel
theorem d_Law_law_392 : decode code 392 = .ok (.iconst 1, 1) := by decide +kernel
theorem d_Law_law_393 : decode code 393 = .ok (.iadd, 1) := by decide +kernel
theorem d_Law_law_394 : decode code 394 = .ok (.iaload, 1) := by decide +kernel
theorem d_Law_law_395 : decode code 395 = .ok (.aload_n 0, 1) := by decide +kernel
theorem d_Law_law_396 : decode code 396 = .ok (.iload_n 3, 1) := by decide +kernel
theorem d_Law_law_397 : decode code 397 = .ok (.iconst 2, 1) := by decide +kernel
theorem d_Law_law_398 : decode code 398 = .ok (.iadd, 1) := by decide +kernel
theorem d_Law_law_399 : decode code 399 = .ok (.iaload, 1) := by decide +kernel
theorem d_Law_law_400 : decode code 400 = .ok (.invokevirtual 49, 3) := by decide +kernel
theorem d_Law_law_403 : decode code 403 = .ok (.if_icmp .eq 316, 3) := by decide +kernel
theorem d_Law_law_406 : decode code 406 = .ok (.iconst 0, 1) := by decide +kernel
theorem d_Law_law_407 : decode code 407 = .ok (.ireturn, 1) := by decide +kernel
theorem d_Law_law_408 : decode code 408 = .ok (.aload_n 1, 1) := by decide +kernel
theorem d_Law_law_409 : decode code 409 = .ok (.aload_n 0, 1) := by decide +kernel
theorem d_Law_law_410 : decode code 410 = .ok (.iload_n 3, 1) := by decide +kernel
theorem d_Law_law_411 : decode code 411 = .ok (.iconst 1, 1) := by decide +kernel
theorem d_Law_law_412 : decode code 412 = .ok (.iadd, 1) := by decide +kernel
theorem d_Law_law_413 : decode code 413 = .ok (.iaload, 1) := by decide +kernel
theorem d_Law_law_414 : decode code 414 = .ok (.aload_n 0, 1) := by decide +kernel
theorem d_Law_law_415 : decode code 415 = .ok (.iload_n 3, 1) := by decide +kernel
theorem d_Law_law_416 : decode code 416 = .ok (.iconst 2, 1) := by decide +kernel
theorem d_Law_law_417 : decode code 417 = .ok (.iadd, 1) := by decide +kernel
theorem d_Law_law_418 : decode code 418 = .ok (.iaload, 1) := by decide +kernel
theorem d_Law_law_419 : decode code 419 = .ok (.invokevirtual 50, 3) := by decide +kernel
theorem d_Law_law_422 : decode code 422 = .ok (.aload_n 2, 1) := by decide +kernel
theorem d_Law_law_423 : decode code 423 = .ok (.aload_n 0, 1) := by decide +kernel
theorem d_Law_law_424 : decode code 424 = .ok (.iload_n 3, 1) := by decide +kernel
theorem d_Law_law_425 : decode code 425 = .ok (.iconst 1, 1) := by decide +kernel
theorem d_Law_law_426 : decode code 426 = .ok (.iadd, 1) := by decide +kernel
theorem d_Law_law_427 : decode code 427 = .ok (.iaload, 1) := by decide +kernel
theorem d_Law_law_428 : decode code 428 = .ok (.aload_n 0, 1) := by decide +kernel
theorem d_Law_law_429 : decode code 429 = .ok (.iload_n 3, 1) := by decide +kernel
theorem d_Law_law_430 : decode code 430 = .ok (.iconst 2, 1) := by decide +kernel
theorem d_Law_law_431 : decode code 431 = .ok (.iadd, 1) := by decide +kernel
theorem d_Law_law_432 : decode code 432 = .ok (.iaload, 1) := by decide +kernel
theorem d_Law_law_433 : decode code 433 = .ok (.invokevirtual 53, 3) := by decide +kernel
theorem d_Law_law_436 : decode code 436 = .ok (.if_icmp .eq 283, 3) := by decide +kernel
theorem d_Law_law_439 : decode code 439 = .ok (.iconst 0, 1) := by decide +kernel
theorem d_Law_law_440 : decode code 440 = .ok (.ireturn, 1) := by decide +kernel
theorem d_Law_law_441 : decode code 441 = .ok (.aload_n 1, 1) := by decide +kernel
theorem d_Law_law_442 : decode code 442 = .ok (.invokevirtual 54, 3) := by decide +kernel
theorem d_Law_law_445 : decode code 445 = .ok (.aload_n 2, 1) := by decide +kernel
theorem d_Law_law_446 : decode code 446 = .ok (.invokevirtual 58, 3) := by decide +kernel
theorem d_Law_law_449 : decode code 449 = .ok (.if_icmp .eq 270, 3) := by decide +kernel
theorem d_Law_law_452 : decode code 452 = .ok (.iconst 0, 1) := by decide +kernel
theorem d_Law_law_453 : decode code 453 = .ok (.ireturn, 1) := by decide +kernel
theorem d_Law_law_454 : decode code 454 = .ok (.aload_n 1, 1) := by decide +kernel
theorem d_Law_law_455 : decode code 455 = .ok (.aload_n 0, 1) := by decide +kernel
theorem d_Law_law_456 : decode code 456 = .ok (.iload_n 3, 1) := by decide +kernel
theorem d_Law_law_457 : decode code 457 = .ok (.iconst 1, 1) := by decide +kernel
theorem d_Law_law_458 : decode code 458 = .ok (.iadd, 1) := by decide +kernel
theorem d_Law_law_459 : decode code 459 = .ok (.iaload, 1) := by decide +kernel
theorem d_Law_law_460 : decode code 460 = .ok (.aload_n 0, 1) := by decide +kernel
theorem d_Law_law_461 : decode code 461 = .ok (.iload_n 3, 1) := by decide +kernel
theorem d_Law_law_462 : decode code 462 = .ok (.iconst 2, 1) := by decide +kernel
theorem d_Law_law_463 : decode code 463 = .ok (.iadd, 1) := by decide +kernel
theorem d_Law_law_464 : decode code 464 = .ok (.iaload, 1) := by decide +kernel
theorem d_Law_law_465 : decode code 465 = .ok (.invokevirtual 59, 3) := by decide +kernel
theorem d_Law_law_468 : decode code 468 = .ok (.aload_n 2, 1) := by decide +kernel
theorem d_Law_law_469 : decode code 469 = .ok (.aload_n 0, 1) := by decide +kernel
theorem d_Law_law_470 : decode code 470 = .ok (.iload_n 3, 1) := by decide +kernel
theorem d_Law_law_471 : decode code 471 = .ok (.iconst 1, 1) := by decide +kernel
theorem d_Law_law_472 : decode code 472 = .ok (.iadd, 1) := by decide +kernel
theorem d_Law_law_473 : decode code 473 = .ok (.iaload, 1) := by decide +kernel
theorem d_Law_law_474 : decode code 474 = .ok (.aload_n 0, 1) := by decide +kernel
theorem d_Law_law_475 : decode code 475 = .ok (.iload_n 3, 1) := by decide +kernel
theorem d_Law_law_476 : decode code 476 = .ok (.iconst 2, 1) := by decide +kernel
theorem d_Law_law_477 : decode code 477 = .ok (.iadd, 1) := by decide +kernel
theorem d_Law_law_478 : decode code 478 = .ok (.iaload, 1) := by decide +kernel
theorem d_Law_law_479 : decode code 479 = .ok (.invokevirtual 63, 3) := by decide +kernel
theorem d_Law_law_482 : decode code 482 = .ok (.lcmp, 1) := by decide +kernel
theorem d_Law_law_483 : decode code 483 = .ok (.ifCond .eq 236, 3) := by decide +kernel
theorem d_Law_law_486 : decode code 486 = .ok (.iconst 0, 1) := by decide +kernel
theorem d_Law_law_487 : decode code 487 = .ok (.ireturn, 1) := by decide +kernel
theorem d_Law_law_488 : decode code 488 = .ok (.aload_n 1, 1) := by decide +kernel
theorem d_Law_law_489 : decode code 489 = .ok (.invokevirtual 64, 3) := by decide +kernel
theorem d_Law_law_492 : decode code 492 = .ok (.aload_n 2, 1) := by decide +kernel
theorem d_Law_law_493 : decode code 493 = .ok (.invokevirtual 67, 3) := by decide +kernel
theorem d_Law_law_496 : decode code 496 = .ok (.if_icmp .eq 223, 3) := by decide +kernel
theorem d_Law_law_499 : decode code 499 = .ok (.iconst 0, 1) := by decide +kernel
theorem d_Law_law_500 : decode code 500 = .ok (.ireturn, 1) := by decide +kernel
theorem d_Law_law_501 : decode code 501 = .ok (.aload_n 1, 1) := by decide +kernel
theorem d_Law_law_502 : decode code 502 = .ok (.aload_n 0, 1) := by decide +kernel
theorem d_Law_law_503 : decode code 503 = .ok (.iload_n 3, 1) := by decide +kernel
theorem d_Law_law_504 : decode code 504 = .ok (.iconst 1, 1) := by decide +kernel
theorem d_Law_law_505 : decode code 505 = .ok (.iadd, 1) := by decide +kernel
theorem d_Law_law_506 : decode code 506 = .ok (.iaload, 1) := by decide +kernel
theorem d_Law_law_507 : decode code 507 = .ok (.invokevirtual 68, 3) := by decide +kernel
theorem d_Law_law_510 : decode code 510 = .ok (.aload_n 2, 1) := by decide +kernel
theorem d_Law_law_511 : decode code 511 = .ok (.aload_n 0, 1) := by decide +kernel
theorem d_Law_law_512 : decode code 512 = .ok (.iload_n 3, 1) := by decide +kernel
theorem d_Law_law_513 : decode code 513 = .ok (.iconst 1, 1) := by decide +kernel
theorem d_Law_law_514 : decode code 514 = .ok (.iadd, 1) := by decide +kernel
theorem d_Law_law_515 : decode code 515 = .ok (.iaload, 1) := by decide +kernel
theorem d_Law_law_516 : decode code 516 = .ok (.invokevirtual 72, 3) := by decide +kernel
theorem d_Law_law_519 : decode code 519 = .ok (.if_icmp .eq 200, 3) := by decide +kernel
theorem d_Law_law_522 : decode code 522 = .ok (.iconst 0, 1) := by decide +kernel
theorem d_Law_law_523 : decode code 523 = .ok (.ireturn, 1) := by decide +kernel
theorem d_Law_law_524 : decode code 524 = .ok (.aload_n 1, 1) := by decide +kernel
theorem d_Law_law_525 : decode code 525 = .ok (.aload_n 0, 1) := by decide +kernel
theorem d_Law_law_526 : decode code 526 = .ok (.iload_n 3, 1) := by decide +kernel
theorem d_Law_law_527 : decode code 527 = .ok (.iconst 1, 1) := by decide +kernel
theorem d_Law_law_528 : decode code 528 = .ok (.iadd, 1) := by decide +kernel
theorem d_Law_law_529 : decode code 529 = .ok (.iaload, 1) := by decide +kernel
theorem d_Law_law_530 : decode code 530 = .ok (.aload_n 0, 1) := by decide +kernel
theorem d_Law_law_531 : decode code 531 = .ok (.iload_n 3, 1) := by decide +kernel
theorem d_Law_law_532 : decode code 532 = .ok (.iconst 2, 1) := by decide +kernel
theorem d_Law_law_533 : decode code 533 = .ok (.iadd, 1) := by decide +kernel
theorem d_Law_law_534 : decode code 534 = .ok (.iaload, 1) := by decide +kernel
theorem d_Law_law_535 : decode code 535 = .ok (.invokevirtual 73, 3) := by decide +kernel
theorem d_Law_law_538 : decode code 538 = .ok (.aload_n 2, 1) := by decide +kernel
theorem d_Law_law_539 : decode code 539 = .ok (.aload_n 0, 1) := by decide +kernel
theorem d_Law_law_540 : decode code 540 = .ok (.iload_n 3, 1) := by decide +kernel
theorem d_Law_law_541 : decode code 541 = .ok (.iconst 1, 1) := by decide +kernel
theorem d_Law_law_542 : decode code 542 = .ok (.iadd, 1) := by decide +kernel
theorem d_Law_law_543 : decode code 543 = .ok (.iaload, 1) := by decide +kernel
theorem d_Law_law_544 : decode code 544 = .ok (.aload_n 0, 1) := by decide +kernel
theorem d_Law_law_545 : decode code 545 = .ok (.iload_n 3, 1) := by decide +kernel
theorem d_Law_law_546 : decode code 546 = .ok (.iconst 2, 1) := by decide +kernel
theorem d_Law_law_547 : decode code 547 = .ok (.iadd, 1) := by decide +kernel
theorem d_Law_law_548 : decode code 548 = .ok (.iaload, 1) := by decide +kernel
theorem d_Law_law_549 : decode code 549 = .ok (.invokevirtual 76, 3) := by decide +kernel
theorem d_Law_law_552 : decode code 552 = .ok (.if_icmp .eq 167, 3) := by decide +kernel
theorem d_Law_law_555 : decode code 555 = .ok (.iconst 0, 1) := by decide +kernel
theorem d_Law_law_556 : decode code 556 = .ok (.ireturn, 1) := by decide +kernel
theorem d_Law_law_557 : decode code 557 = .ok (.aload_n 1, 1) := by decide +kernel
theorem d_Law_law_558 : decode code 558 = .ok (.aload_n 0, 1) := by decide +kernel
theorem d_Law_law_559 : decode code 559 = .ok (.iload_n 3, 1) := by decide +kernel
theorem d_Law_law_560 : decode code 560 = .ok (.iconst 1, 1) := by decide +kernel
theorem d_Law_law_561 : decode code 561 = .ok (.iadd, 1) := by decide +kernel
theorem d_Law_law_562 : decode code 562 = .ok (.iaload, 1) := by decide +kernel
theorem d_Law_law_563 : decode code 563 = .ok (.invokevirtual 77, 3) := by decide +kernel
theorem d_Law_law_566 : decode code 566 = .ok (.aload_n 2, 1) := by decide +kernel
theorem d_Law_law_567 : decode code 567 = .ok (.aload_n 0, 1) := by decide +kernel
theorem d_Law_law_568 : decode code 568 = .ok (.iload_n 3, 1) := by decide +kernel
theorem d_Law_law_569 : decode code 569 = .ok (.iconst 1, 1) := by decide +kernel
theorem d_Law_law_570 : decode code 570 = .ok (.iadd, 1) := by decide +kernel
theorem d_Law_law_571 : decode code 571 = .ok (.iaload, 1) := by decide +kernel
theorem d_Law_law_572 : decode code 572 = .ok (.invokevirtual 80, 3) := by decide +kernel
theorem d_Law_law_575 : decode code 575 = .ok (.if_icmp .eq 144, 3) := by decide +kernel
theorem d_Law_law_578 : decode code 578 = .ok (.iconst 0, 1) := by decide +kernel
theorem d_Law_law_579 : decode code 579 = .ok (.ireturn, 1) := by decide +kernel
theorem d_Law_law_580 : decode code 580 = .ok (.aload_n 1, 1) := by decide +kernel
theorem d_Law_law_581 : decode code 581 = .ok (.aload_n 0, 1) := by decide +kernel
theorem d_Law_law_582 : decode code 582 = .ok (.iload_n 3, 1) := by decide +kernel
theorem d_Law_law_583 : decode code 583 = .ok (.iconst 1, 1) := by decide +kernel
theorem d_Law_law_584 : decode code 584 = .ok (.iadd, 1) := by decide +kernel
theorem d_Law_law_585 : decode code 585 = .ok (.iaload, 1) := by decide +kernel
theorem d_Law_law_586 : decode code 586 = .ok (.invokevirtual 81, 3) := by decide +kernel
theorem d_Law_law_589 : decode code 589 = .ok (.aload_n 2, 1) := by decide +kernel
theorem d_Law_law_590 : decode code 590 = .ok (.aload_n 0, 1) := by decide +kernel
theorem d_Law_law_591 : decode code 591 = .ok (.iload_n 3, 1) := by decide +kernel
theorem d_Law_law_592 : decode code 592 = .ok (.iconst 1, 1) := by decide +kernel
theorem d_Law_law_593 : decode code 593 = .ok (.iadd, 1) := by decide +kernel
theorem d_Law_law_594 : decode code 594 = .ok (.iaload, 1) := by decide +kernel
theorem d_Law_law_595 : decode code 595 = .ok (.invokevirtual 84, 3) := by decide +kernel
theorem d_Law_law_598 : decode code 598 = .ok (.if_icmp .eq 121, 3) := by decide +kernel
theorem d_Law_law_601 : decode code 601 = .ok (.iconst 0, 1) := by decide +kernel
theorem d_Law_law_602 : decode code 602 = .ok (.ireturn, 1) := by decide +kernel
theorem d_Law_law_603 : decode code 603 = .ok (.aload_n 1, 1) := by decide +kernel
theorem d_Law_law_604 : decode code 604 = .ok (.aload_n 0, 1) := by decide +kernel
theorem d_Law_law_605 : decode code 605 = .ok (.iload_n 3, 1) := by decide +kernel
theorem d_Law_law_606 : decode code 606 = .ok (.iconst 1, 1) := by decide +kernel
theorem d_Law_law_607 : decode code 607 = .ok (.iadd, 1) := by decide +kernel
theorem d_Law_law_608 : decode code 608 = .ok (.iaload, 1) := by decide +kernel
theorem d_Law_law_609 : decode code 609 = .ok (.invokevirtual 85, 3) := by decide +kernel
theorem d_Law_law_612 : decode code 612 = .ok (.aload_n 2, 1) := by decide +kernel
theorem d_Law_law_613 : decode code 613 = .ok (.aload_n 0, 1) := by decide +kernel
theorem d_Law_law_614 : decode code 614 = .ok (.iload_n 3, 1) := by decide +kernel
theorem d_Law_law_615 : decode code 615 = .ok (.iconst 1, 1) := by decide +kernel
theorem d_Law_law_616 : decode code 616 = .ok (.iadd, 1) := by decide +kernel
theorem d_Law_law_617 : decode code 617 = .ok (.iaload, 1) := by decide +kernel
theorem d_Law_law_618 : decode code 618 = .ok (.invokevirtual 88, 3) := by decide +kernel
theorem d_Law_law_621 : decode code 621 = .ok (.if_icmp .eq 98, 3) := by decide +kernel
theorem d_Law_law_624 : decode code 624 = .ok (.iconst 0, 1) := by decide +kernel
theorem d_Law_law_625 : decode code 625 = .ok (.ireturn, 1) := by decide +kernel
theorem d_Law_law_626 : decode code 626 = .ok (.aload_n 1, 1) := by decide +kernel
theorem d_Law_law_627 : decode code 627 = .ok (.invokevirtual 89, 3) := by decide +kernel
theorem d_Law_law_630 : decode code 630 = .ok (.aload_n 2, 1) := by decide +kernel
theorem d_Law_law_631 : decode code 631 = .ok (.invokevirtual 92, 3) := by decide +kernel
theorem d_Law_law_634 : decode code 634 = .ok (.if_icmp .eq 85, 3) := by decide +kernel
theorem d_Law_law_637 : decode code 637 = .ok (.iconst 0, 1) := by decide +kernel
theorem d_Law_law_638 : decode code 638 = .ok (.ireturn, 1) := by decide +kernel
theorem d_Law_law_639 : decode code 639 = .ok (.aload_n 1, 1) := by decide +kernel
theorem d_Law_law_640 : decode code 640 = .ok (.aload_n 0, 1) := by decide +kernel
theorem d_Law_law_641 : decode code 641 = .ok (.iload_n 3, 1) := by decide +kernel
theorem d_Law_law_642 : decode code 642 = .ok (.iconst 1, 1) := by decide +kernel
theorem d_Law_law_643 : decode code 643 = .ok (.iadd, 1) := by decide +kernel
theorem d_Law_law_644 : decode code 644 = .ok (.iaload, 1) := by decide +kernel
theorem d_Law_law_645 : decode code 645 = .ok (.aload_n 0, 1) := by decide +kernel
theorem d_Law_law_646 : decode code 646 = .ok (.iload_n 3, 1) := by decide +kernel
theorem d_Law_law_647 : decode code 647 = .ok (.iconst 2, 1) := by decide +kernel
theorem d_Law_law_648 : decode code 648 = .ok (.iadd, 1) := by decide +kernel
theorem d_Law_law_649 : decode code 649 = .ok (.iaload, 1) := by decide +kernel
theorem d_Law_law_650 : decode code 650 = .ok (.invokevirtual 93, 3) := by decide +kernel
theorem d_Law_law_653 : decode code 653 = .ok (.aload_n 2, 1) := by decide +kernel
theorem d_Law_law_654 : decode code 654 = .ok (.aload_n 0, 1) := by decide +kernel
theorem d_Law_law_655 : decode code 655 = .ok (.iload_n 3, 1) := by decide +kernel
theorem d_Law_law_656 : decode code 656 = .ok (.iconst 1, 1) := by decide +kernel
theorem d_Law_law_657 : decode code 657 = .ok (.iadd, 1) := by decide +kernel
theorem d_Law_law_658 : decode code 658 = .ok (.iaload, 1) := by decide +kernel
theorem d_Law_law_659 : decode code 659 = .ok (.aload_n 0, 1) := by decide +kernel
theorem d_Law_law_660 : decode code 660 = .ok (.iload_n 3, 1) := by decide +kernel
theorem d_Law_law_661 : decode code 661 = .ok (.iconst 2, 1) := by decide +kernel
theorem d_Law_law_662 : decode code 662 = .ok (.iadd, 1) := by decide +kernel
theorem d_Law_law_663 : decode code 663 = .ok (.iaload, 1) := by decide +kernel
theorem d_Law_law_664 : decode code 664 = .ok (.invokevirtual 96, 3) := by decide +kernel
theorem d_Law_law_667 : decode code 667 = .ok (.if_icmp .eq 52, 3) := by decide +kernel
theorem d_Law_law_670 : decode code 670 = .ok (.iconst 0, 1) := by decide +kernel
theorem d_Law_law_671 : decode code 671 = .ok (.ireturn, 1) := by decide +kernel
theorem d_Law_law_672 : decode code 672 = .ok (.aload_n 1, 1) := by decide +kernel
theorem d_Law_law_673 : decode code 673 = .ok (.aload_n 0, 1) := by decide +kernel
theorem d_Law_law_674 : decode code 674 = .ok (.iload_n 3, 1) := by decide +kernel
theorem d_Law_law_675 : decode code 675 = .ok (.iconst 1, 1) := by decide +kernel
theorem d_Law_law_676 : decode code 676 = .ok (.iadd, 1) := by decide +kernel
theorem d_Law_law_677 : decode code 677 = .ok (.iaload, 1) := by decide +kernel
theorem d_Law_law_678 : decode code 678 = .ok (.aload_n 0, 1) := by decide +kernel
theorem d_Law_law_679 : decode code 679 = .ok (.iload_n 3, 1) := by decide +kernel
theorem d_Law_law_680 : decode code 680 = .ok (.iconst 2, 1) := by decide +kernel
theorem d_Law_law_681 : decode code 681 = .ok (.iadd, 1) := by decide +kernel
theorem d_Law_law_682 : decode code 682 = .ok (.iaload, 1) := by decide +kernel
theorem d_Law_law_683 : decode code 683 = .ok (.invokevirtual 97, 3) := by decide +kernel
theorem d_Law_law_686 : decode code 686 = .ok (.aload_n 2, 1) := by decide +kernel
theorem d_Law_law_687 : decode code 687 = .ok (.aload_n 0, 1) := by decide +kernel
theorem d_Law_law_688 : decode code 688 = .ok (.iload_n 3, 1) := by decide +kernel
theorem d_Law_law_689 : decode code 689 = .ok (.iconst 1, 1) := by decide +kernel
theorem d_Law_law_690 : decode code 690 = .ok (.iadd, 1) := by decide +kernel
theorem d_Law_law_691 : decode code 691 = .ok (.iaload, 1) := by decide +kernel
theorem d_Law_law_692 : decode code 692 = .ok (.aload_n 0, 1) := by decide +kernel
theorem d_Law_law_693 : decode code 693 = .ok (.iload_n 3, 1) := by decide +kernel
theorem d_Law_law_694 : decode code 694 = .ok (.iconst 2, 1) := by decide +kernel
theorem d_Law_law_695 : decode code 695 = .ok (.iadd, 1) := by decide +kernel
theorem d_Law_law_696 : decode code 696 = .ok (.iaload, 1) := by decide +kernel
theorem d_Law_law_697 : decode code 697 = .ok (.invokevirtual 100, 3) := by decide +kernel
theorem d_Law_law_700 : decode code 700 = .ok (.lcmp, 1) := by decide +kernel
theorem d_Law_law_701 : decode code 701 = .ok (.ifCond .eq 18, 3) := by decide +kernel
theorem d_Law_law_704 : decode code 704 = .ok (.iconst 0, 1) := by decide +kernel
theorem d_Law_law_705 : decode code 705 = .ok (.ireturn, 1) := by decide +kernel
theorem d_Law_law_706 : decode code 706 = .ok (.aload_n 1, 1) := by decide +kernel
theorem d_Law_law_707 : decode code 707 = .ok (.invokevirtual 101, 3) := by decide +kernel
theorem d_Law_law_710 : decode code 710 = .ok (.aload_n 2, 1) := by decide +kernel
theorem d_Law_law_711 : decode code 711 = .ok (.invokevirtual 104, 3) := by decide +kernel
theorem d_Law_law_714 : decode code 714 = .ok (.if_icmp .eq 5, 3) := by decide +kernel
theorem d_Law_law_717 : decode code 717 = .ok (.iconst 0, 1) := by decide +kernel
theorem d_Law_law_718 : decode code 718 = .ok (.ireturn, 1) := by decide +kernel
theorem d_Law_law_719 : decode code 719 = .ok (.iinc 3 6, 3) := by decide +kernel
theorem d_Law_law_722 : decode code 722 = .ok (.goto (-684), 3) := by decide +kernel
theorem d_Law_law_725 : decode code 725 = .ok (.iconst 1, 1) := by decide +kernel
theorem d_Law_law_726 : decode code 726 = .ok (.ireturn, 1) := by decide +kernel

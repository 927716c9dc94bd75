def RL : String := "AddressBookLaw"
theorem dL_0 : decode code 0 = .ok (.new 7, 3) := by decide +kernel
theorem dL_3 : decode code 3 = .ok (.dup, 1) := by decide +kernel
theorem dL_4 : decode code 4 = .ok (.invokespecial 9, 3) := by decide +kernel
theorem dL_7 : decode code 7 = .ok (.astore_n 1, 1) := by decide +kernel
theorem dL_8 : decode code 8 = .ok (.new 10, 3) := by decide +kernel
theorem dL_11 : decode code 11 = .ok (.dup, 1) := by decide +kernel
theorem dL_12 : decode code 12 = .ok (.invokespecial 12, 3) := by decide +kernel
theorem dL_15 : decode code 15 = .ok (.astore_n 2, 1) := by decide +kernel
theorem dL_16 : decode code 16 = .ok (.iconst 0, 1) := by decide +kernel
theorem dL_17 : decode code 17 = .ok (.istore_n 3, 1) := by decide +kernel
theorem dL_18 : decode code 18 = .ok (.iload_n 3, 1) := by decide +kernel
theorem dL_19 : decode code 19 = .ok (.aload_n 0, 1) := by decide +kernel
theorem dL_20 : decode code 20 = .ok (.arraylength, 1) := by decide +kernel
theorem dL_21 : decode code 21 = .ok (.bipush 6, 2) := by decide +kernel
theorem dL_23 : decode code 23 = .ok (.isub, 1) := by decide +kernel
theorem dL_24 : decode code 24 = .ok (.if_icmp .gt 581, 3) := by decide +kernel
theorem dL_27 : decode code 27 = .ok (.aload_n 0, 1) := by decide +kernel
theorem dL_28 : decode code 28 = .ok (.iload_n 3, 1) := by decide +kernel
theorem dL_29 : decode code 29 = .ok (.iaload, 1) := by decide +kernel
theorem dL_30 : decode code 30 = .ok (.bipush 15, 2) := by decide +kernel
theorem dL_32 : decode code 32 = .ok (.iand, 1) := by decide +kernel
theorem dL_33 : decode code 33 = .ok (.tableswitch 566 0 12 #[67, 100, 133, 166, 229, 272, 325, 368, 421, 454, 477, 500, 543], 67) := by decide +kernel
theorem dL_100 : decode code 100 = .ok (.aload_n 1, 1) := by decide +kernel
theorem dL_101 : decode code 101 = .ok (.aload_n 0, 1) := by decide +kernel
theorem dL_102 : decode code 102 = .ok (.iload_n 3, 1) := by decide +kernel
theorem dL_103 : decode code 103 = .ok (.iconst 1, 1) := by decide +kernel
theorem dL_104 : decode code 104 = .ok (.iadd, 1) := by decide +kernel
theorem dL_105 : decode code 105 = .ok (.iaload, 1) := by decide +kernel
theorem dL_106 : decode code 106 = .ok (.aload_n 0, 1) := by decide +kernel
theorem dL_107 : decode code 107 = .ok (.iload_n 3, 1) := by decide +kernel
theorem dL_108 : decode code 108 = .ok (.iconst 2, 1) := by decide +kernel
theorem dL_109 : decode code 109 = .ok (.iadd, 1) := by decide +kernel
theorem dL_110 : decode code 110 = .ok (.iaload, 1) := by decide +kernel
theorem dL_111 : decode code 111 = .ok (.invokevirtual 13, 3) := by decide +kernel
theorem dL_114 : decode code 114 = .ok (.aload_n 2, 1) := by decide +kernel
theorem dL_115 : decode code 115 = .ok (.aload_n 0, 1) := by decide +kernel
theorem dL_116 : decode code 116 = .ok (.iload_n 3, 1) := by decide +kernel
theorem dL_117 : decode code 117 = .ok (.iconst 1, 1) := by decide +kernel
theorem dL_118 : decode code 118 = .ok (.iadd, 1) := by decide +kernel
theorem dL_119 : decode code 119 = .ok (.iaload, 1) := by decide +kernel
theorem dL_120 : decode code 120 = .ok (.aload_n 0, 1) := by decide +kernel
theorem dL_121 : decode code 121 = .ok (.iload_n 3, 1) := by decide +kernel
theorem dL_122 : decode code 122 = .ok (.iconst 2, 1) := by decide +kernel
theorem dL_123 : decode code 123 = .ok (.iadd, 1) := by decide +kernel
theorem dL_124 : decode code 124 = .ok (.iaload, 1) := by decide +kernel
theorem dL_125 : decode code 125 = .ok (.invokevirtual 17, 3) := by decide +kernel
theorem dL_128 : decode code 128 = .ok (.if_icmp .eq 471, 3) := by decide +kernel
theorem dL_131 : decode code 131 = .ok (.iconst 0, 1) := by decide +kernel
theorem dL_132 : decode code 132 = .ok (.ireturn, 1) := by decide +kernel
theorem dL_133 : decode code 133 = .ok (.aload_n 1, 1) := by decide +kernel
theorem dL_134 : decode code 134 = .ok (.aload_n 0, 1) := by decide +kernel
theorem dL_135 : decode code 135 = .ok (.iload_n 3, 1) := by decide +kernel
theorem dL_136 : decode code 136 = .ok (.iconst 1, 1) := by decide +kernel
theorem dL_137 : decode code 137 = .ok (.iadd, 1) := by decide +kernel
theorem dL_138 : decode code 138 = .ok (.iaload, 1) := by decide +kernel
theorem dL_139 : decode code 139 = .ok (.aload_n 0, 1) := by decide +kernel
theorem dL_140 : decode code 140 = .ok (.iload_n 3, 1) := by decide +kernel
theorem dL_141 : decode code 141 = .ok (.iconst 2, 1) := by decide +kernel
theorem dL_142 : decode code 142 = .ok (.iadd, 1) := by decide +kernel
theorem dL_143 : decode code 143 = .ok (.iaload, 1) := by decide +kernel
theorem dL_144 : decode code 144 = .ok (.invokevirtual 18, 3) := by decide +kernel
theorem dL_147 : decode code 147 = .ok (.aload_n 2, 1) := by decide +kernel
theorem dL_148 : decode code 148 = .ok (.aload_n 0, 1) := by decide +kernel
theorem dL_149 : decode code 149 = .ok (.iload_n 3, 1) := by decide +kernel
theorem dL_150 : decode code 150 = .ok (.iconst 1, 1) := by decide +kernel
theorem dL_151 : decode code 151 = .ok (.iadd, 1) := by decide +kernel
theorem dL_152 : decode code 152 = .ok (.iaload, 1) := by decide +kernel
theorem dL_153 : decode code 153 = .ok (.aload_n 0, 1) := by decide +kernel
theorem dL_154 : decode code 154 = .ok (.iload_n 3, 1) := by decide +kernel
theorem dL_155 : decode code 155 = .ok (.iconst 2, 1) := by decide +kernel
theorem dL_156 : decode code 156 = .ok (.iadd, 1) := by decide +kernel
theorem dL_157 : decode code 157 = .ok (.iaload, 1) := by decide +kernel
theorem dL_158 : decode code 158 = .ok (.invokevirtual 21, 3) := by decide +kernel
theorem dL_161 : decode code 161 = .ok (.if_icmp .eq 438, 3) := by decide +kernel
theorem dL_164 : decode code 164 = .ok (.iconst 0, 1) := by decide +kernel
theorem dL_165 : decode code 165 = .ok (.ireturn, 1) := by decide +kernel
theorem dL_166 : decode code 166 = .ok (.aload_n 1, 1) := by decide +kernel
theorem dL_167 : decode code 167 = .ok (.aload_n 0, 1) := by decide +kernel
theorem dL_168 : decode code 168 = .ok (.iload_n 3, 1) := by decide +kernel
theorem dL_169 : decode code 169 = .ok (.iconst 1, 1) := by decide +kernel
theorem dL_170 : decode code 170 = .ok (.iadd, 1) := by decide +kernel
theorem dL_171 : decode code 171 = .ok (.iaload, 1) := by decide +kernel
theorem dL_172 : decode code 172 = .ok (.aload_n 0, 1) := by decide +kernel
theorem dL_173 : decode code 173 = .ok (.iload_n 3, 1) := by decide +kernel
theorem dL_174 : decode code 174 = .ok (.iconst 2, 1) := by decide +kernel
theorem dL_175 : decode code 175 = .ok (.iadd, 1) := by decide +kernel
theorem dL_176 : decode code 176 = .ok (.iaload, 1) := by decide +kernel
theorem dL_177 : decode code 177 = .ok (.invokevirtual 22, 3) := by decide +kernel
theorem dL_180 : decode code 180 = .ok (.aload_n 2, 1) := by decide +kernel
theorem dL_181 : decode code 181 = .ok (.aload_n 0, 1) := by decide +kernel
theorem dL_182 : decode code 182 = .ok (.iload_n 3, 1) := by decide +kernel
theorem dL_183 : decode code 183 = .ok (.iconst 1, 1) := by decide +kernel
theorem dL_184 : decode code 184 = .ok (.iadd, 1) := by decide +kernel
theorem dL_185 : decode code 185 = .ok (.iaload, 1) := by decide +kernel
theorem dL_186 : decode code 186 = .ok (.aload_n 0, 1) := by decide +kernel
theorem dL_187 : decode code 187 = .ok (.iload_n 3, 1) := by decide +kernel
theorem dL_188 : decode code 188 = .ok (.iconst 2, 1) := by decide +kernel
theorem dL_189 : decode code 189 = .ok (.iadd, 1) := by decide +kernel
theorem dL_190 : decode code 190 = .ok (.iaload, 1) := by decide +kernel
theorem dL_191 : decode code 191 = .ok (.invokevirtual 25, 3) := by decide +kernel
theorem dL_194 : decode code 194 = .ok (.if_icmp .eq 405, 3) := by decide +kernel
theorem dL_197 : decode code 197 = .ok (.iconst 0, 1) := by decide +kernel
theorem dL_198 : decode code 198 = .ok (.ireturn, 1) := by decide +kernel
theorem dL_199 : decode code 199 = .ok (.aload_n 1, 1) := by decide +kernel
theorem dL_200 : decode code 200 = .ok (.aload_n 0, 1) := by decide +kernel
theorem dL_201 : decode code 201 = .ok (.iload_n 3, 1) := by decide +kernel
theorem dL_202 : decode code 202 = .ok (.iconst 1, 1) := by decide +kernel
theorem dL_203 : decode code 203 = .ok (.iadd, 1) := by decide +kernel
theorem dL_204 : decode code 204 = .ok (.iaload, 1) := by decide +kernel
theorem dL_205 : decode code 205 = .ok (.aload_n 0, 1) := by decide +kernel
theorem dL_206 : decode code 206 = .ok (.iload_n 3, 1) := by decide +kernel
theorem dL_207 : decode code 207 = .ok (.iconst 2, 1) := by decide +kernel
theorem dL_208 : decode code 208 = .ok (.iadd, 1) := by decide +kernel
theorem dL_209 : decode code 209 = .ok (.iaload, 1) := by decide +kernel
theorem dL_210 : decode code 210 = .ok (.aload_n 0, 1) := by decide +kernel
theorem dL_211 : decode code 211 = .ok (.iload_n 3, 1) := by decide +kernel
theorem dL_212 : decode code 212 = .ok (.iconst 3, 1) := by decide +kernel
theorem dL_213 : decode code 213 = .ok (.iadd, 1) := by decide +kernel
theorem dL_214 : decode code 214 = .ok (.iaload, 1) := by decide +kernel
theorem dL_215 : decode code 215 = .ok (.aload_n 0, 1) := by decide +kernel
theorem dL_216 : decode code 216 = .ok (.iload_n 3, 1) := by decide +kernel
theorem dL_217 : decode code 217 = .ok (.iconst 4, 1) := by decide +kernel
theorem dL_218 : decode code 218 = .ok (.iadd, 1) := by decide +kernel
theorem dL_219 : decode code 219 = .ok (.iaload, 1) := by decide +kernel
theorem dL_220 : decode code 220 = .ok (.aload_n 0, 1) := by decide +kernel
theorem dL_221 : decode code 221 = .ok (.iload_n 3, 1) := by decide +kernel
theorem dL_222 : decode code 222 = .ok (.iconst 5, 1) := by decide +kernel
theorem dL_223 : decode code 223 = .ok (.iadd, 1) := by decide +kernel
theorem dL_224 : decode code 224 = .ok (.iaload, 1) := by decide +kernel
theorem dL_225 : decode code 225 = .ok (.invokevirtual 26, 3) := by decide +kernel
theorem dL_228 : decode code 228 = .ok (.aload_n 2, 1) := by decide +kernel
theorem dL_229 : decode code 229 = .ok (.aload_n 0, 1) := by decide +kernel
theorem dL_230 : decode code 230 = .ok (.iload_n 3, 1) := by decide +kernel
theorem dL_231 : decode code 231 = .ok (.iconst 1, 1) := by decide +kernel
theorem dL_232 : decode code 232 = .ok (.iadd, 1) := by decide +kernel
theorem dL_233 : decode code 233 = .ok (.iaload, 1) := by decide +kernel
theorem dL_234 : decode code 234 = .ok (.aload_n 0, 1) := by decide +kernel
theorem dL_235 : decode code 235 = .ok (.iload_n 3, 1) := by decide +kernel
theorem dL_236 : decode code 236 = .ok (.iconst 2, 1) := by decide +kernel
theorem dL_237 : decode code 237 = .ok (.iadd, 1) := by decide +kernel
theorem dL_238 : decode code 238 = .ok (.iaload, 1) := by decide +kernel
theorem dL_239 : decode code 239 = .ok (.aload_n 0, 1) := by decide +kernel
theorem dL_240 : decode code 240 = .ok (.iload_n 3, 1) := by decide +kernel
theorem dL_241 : decode code 241 = .ok (.iconst 3, 1) := by decide +kernel
theorem dL_242 : decode code 242 = .ok (.iadd, 1) := by decide +kernel
theorem dL_243 : decode code 243 = .ok (.iaload, 1) := by decide +kernel
theorem dL_244 : decode code 244 = .ok (.aload_n 0, 1) := by decide +kernel
theorem dL_245 : decode code 245 = .ok (.iload_n 3, 1) := by decide +kernel
theorem dL_246 : decode code 246 = .ok (.iconst 4, 1) := by decide +kernel
theorem dL_247 : decode code 247 = .ok (.iadd, 1) := by decide +kernel
theorem dL_248 : decode code 248 = .ok (.iaload, 1) := by decide +kernel
theorem dL_249 : decode code 249 = .ok (.aload_n 0, 1) := by decide +kernel
theorem dL_250 : decode code 250 = .ok (.iload_n 3, 1) := by decide +kernel
theorem dL_251 : decode code 251 = .ok (.iconst 5, 1) := by decide +kernel
theorem dL_252 : decode code 252 = .ok (.iadd, 1) := by decide +kernel
theorem dL_253 : decode code 253 = .ok (.iaload, 1) := by decide +kernel
theorem dL_254 : decode code 254 = .ok (.invokevirtual 30, 3) := by decide +kernel
theorem dL_257 : decode code 257 = .ok (.if_icmp .eq 342, 3) := by decide +kernel
theorem dL_260 : decode code 260 = .ok (.iconst 0, 1) := by decide +kernel
theorem dL_261 : decode code 261 = .ok (.ireturn, 1) := by decide +kernel
theorem dL_262 : decode code 262 = .ok (.aload_n 1, 1) := by decide +kernel
theorem dL_263 : decode code 263 = .ok (.aload_n 0, 1) := by decide +kernel
theorem dL_264 : decode code 264 = .ok (.iload_n 3, 1) := by decide +kernel
theorem dL_265 : decode code 265 = .ok (.iconst 1, 1) := by decide +kernel
theorem dL_266 : decode code 266 = .ok (.iadd, 1) := by decide +kernel
theorem dL_267 : decode code 267 = .ok (.iaload, 1) := by decide +kernel
theorem dL_268 : decode code 268 = .ok (.aload_n 0, 1) := by decide +kernel
theorem dL_269 : decode code 269 = .ok (.iload_n 3, 1) := by decide +kernel
theorem dL_270 : decode code 270 = .ok (.iconst 2, 1) := by decide +kernel
theorem dL_271 : decode code 271 = .ok (.iadd, 1) := by decide +kernel
theorem dL_272 : decode code 272 = .ok (.iaload, 1) := by decide +kernel
theorem dL_273 : decode code 273 = .ok (.aload_n 0, 1) := by decide +kernel
theorem dL_274 : decode code 274 = .ok (.iload_n 3, 1) := by decide +kernel
theorem dL_275 : decode code 275 = .ok (.iconst 3, 1) := by decide +kernel
theorem dL_276 : decode code 276 = .ok (.iadd, 1) := by decide +kernel
theorem dL_277 : decode code 277 = .ok (.iaload, 1) := by decide +kernel
theorem dL_278 : decode code 278 = .ok (.invokevirtual 31, 3) := by decide +kernel
theorem dL_281 : decode code 281 = .ok (.aload_n 2, 1) := by decide +kernel
theorem dL_282 : decode code 282 = .ok (.aload_n 0, 1) := by decide +kernel
theorem dL_283 : decode code 283 = .ok (.iload_n 3, 1) := by decide +kernel
theorem dL_284 : decode code 284 = .ok (.iconst 1, 1) := by decide +kernel
theorem dL_285 : decode code 285 = .ok (.iadd, 1) := by decide +kernel
theorem dL_286 : decode code 286 = .ok (.iaload, 1) := by decide +kernel
theorem dL_287 : decode code 287 = .ok (.aload_n 0, 1) := by decide +kernel
theorem dL_288 : decode code 288 = .ok (.iload_n 3, 1) := by decide +kernel
theorem dL_289 : decode code 289 = .ok (.iconst 2, 1) := by decide +kernel
theorem dL_290 : decode code 290 = .ok (.iadd, 1) := by decide +kernel
theorem dL_291 : decode code 291 = .ok (.iaload, 1) := by decide +kernel
theorem dL_292 : decode code 292 = .ok (.aload_n 0, 1) := by decide +kernel
theorem dL_293 : decode code 293 = .ok (.iload_n 3, 1) := by decide +kernel
theorem dL_294 : decode code 294 = .ok (.iconst 3, 1) := by decide +kernel
theorem dL_295 : decode code 295 = .ok (.iadd, 1) := by decide +kernel
theorem dL_296 : decode code 296 = .ok (.iaload, 1) := by decide +kernel
theorem dL_297 : decode code 297 = .ok (.invokevirtual 35, 3) := by decide +kernel
theorem dL_300 : decode code 300 = .ok (.if_icmp .eq 299, 3) := by decide +kernel
theorem dL_303 : decode code 303 = .ok (.iconst 0, 1) := by decide +kernel
theorem dL_304 : decode code 304 = .ok (.ireturn, 1) := by decide +kernel
theorem dL_305 : decode code 305 = .ok (.aload_n 1, 1) := by decide +kernel
theorem dL_306 : decode code 306 = .ok (.aload_n 0, 1) := by decide +kernel
theorem dL_307 : decode code 307 = .ok (.iload_n 3, 1) := by decide +kernel
theorem dL_308 : decode code 308 = .ok (.iconst 1, 1) := by decide +kernel
theorem dL_309 : decode code 309 = .ok (.iadd, 1) := by decide +kernel
theorem dL_310 : decode code 310 = .ok (.iaload, 1) := by decide +kernel
theorem dL_311 : decode code 311 = .ok (.aload_n 0, 1) := by decide +kernel
theorem dL_312 : decode code 312 = .ok (.iload_n 3, 1) := by decide +kernel
theorem dL_313 : decode code 313 = .ok (.iconst 2, 1) := by decide +kernel
theorem dL_314 : decode code 314 = .ok (.iadd, 1) := by decide +kernel
theorem dL_315 : decode code 315 = .ok (.iaload, 1) := by decide +kernel
theorem dL_316 : decode code 316 = .ok (.aload_n 0, 1) := by decide +kernel
theorem dL_317 : decode code 317 = .ok (.iload_n 3, 1) := by decide +kernel
theorem dL_318 : decode code 318 = .ok (.iconst 3, 1) := by decide +kernel
theorem dL_319 : decode code 319 = .ok (.iadd, 1) := by decide +kernel
theorem dL_320 : decode code 320 = .ok (.iaload, 1) := by decide +kernel
theorem dL_321 : decode code 321 = .ok (.aload_n 0, 1) := by decide +kernel
theorem dL_322 : decode code 322 = .ok (.iload_n 3, 1) := by decide +kernel
theorem dL_323 : decode code 323 = .ok (.iconst 4, 1) := by decide +kernel
theorem dL_324 : decode code 324 = .ok (.iadd, 1) := by decide +kernel
theorem dL_325 : decode code 325 = .ok (.iaload, 1) := by decide +kernel
theorem dL_326 : decode code 326 = .ok (.invokevirtual 36, 3) := by decide +kernel
theorem dL_329 : decode code 329 = .ok (.aload_n 2, 1) := by decide +kernel
theorem dL_330 : decode code 330 = .ok (.aload_n 0, 1) := by decide +kernel
theorem dL_331 : decode code 331 = .ok (.iload_n 3, 1) := by decide +kernel
theorem dL_332 : decode code 332 = .ok (.iconst 1, 1) := by decide +kernel
theorem dL_333 : decode code 333 = .ok (.iadd, 1) := by decide +kernel
theorem dL_334 : decode code 334 = .ok (.iaload, 1) := by decide +kernel
theorem dL_335 : decode code 335 = .ok (.aload_n 0, 1) := by decide +kernel
theorem dL_336 : decode code 336 = .ok (.iload_n 3, 1) := by decide +kernel
theorem dL_337 : decode code 337 = .ok (.iconst 2, 1) := by decide +kernel
theorem dL_338 : decode code 338 = .ok (.iadd, 1) := by decide +kernel
theorem dL_339 : decode code 339 = .ok (.iaload, 1) := by decide +kernel
theorem dL_340 : decode code 340 = .ok (.aload_n 0, 1) := by decide +kernel
theorem dL_341 : decode code 341 = .ok (.iload_n 3, 1) := by decide +kernel
theorem dL_342 : decode code 342 = .ok (.iconst 3, 1) := by decide +kernel
theorem dL_343 : decode code 343 = .ok (.iadd, 1) := by decide +kernel
theorem dL_344 : decode code 344 = .ok (.iaload, 1) := by decide +kernel
theorem dL_345 : decode code 345 = .ok (.aload_n 0, 1) := by decide +kernel
theorem dL_346 : decode code 346 = .ok (.iload_n 3, 1) := by decide +kernel
theorem dL_347 : decode code 347 = .ok (.iconst 4, 1) := by decide +kernel
theorem dL_348 : decode code 348 = .ok (.iadd, 1) := by decide +kernel
theorem dL_349 : decode code 349 = .ok (.iaload, 1) := by decide +kernel
theorem dL_350 : decode code 350 = .ok (.invokevirtual 40, 3) := by decide +kernel
theorem dL_353 : decode code 353 = .ok (.if_icmp .eq 246, 3) := by decide +kernel
theorem dL_356 : decode code 356 = .ok (.iconst 0, 1) := by decide +kernel
theorem dL_357 : decode code 357 = .ok (.ireturn, 1) := by decide +kernel
theorem dL_358 : decode code 358 = .ok (.aload_n 1, 1) := by decide +kernel
theorem dL_359 : decode code 359 = .ok (.aload_n 0, 1) := by decide +kernel
theorem dL_360 : decode code 360 = .ok (.iload_n 3, 1) := by decide +kernel
theorem dL_361 : decode code 361 = .ok (.iconst 1, 1) := by decide +kernel
theorem dL_362 : decode code 362 = .ok (.iadd, 1) := by decide +kernel
theorem dL_363 : decode code 363 = .ok (.iaload, 1) := by decide +kernel
theorem dL_364 : decode code 364 = .ok (.aload_n 0, 1) := by decide +kernel
theorem dL_365 : decode code 365 = .ok (.iload_n 3, 1) := by decide +kernel
theorem dL_366 : decode code 366 = .ok (.iconst 2, 1) := by decide +kernel
theorem dL_367 : decode code 367 = .ok (.iadd, 1) := by decide +kernel
theorem dL_368 : decode code 368 = .ok (.iaload, 1) := by decide +kernel
theorem dL_369 : decode code 369 = .ok (.aload_n 0, 1) := by decide +kernel
theorem dL_370 : decode code 370 = .ok (.iload_n 3, 1) := by decide +kernel
theorem dL_371 : decode code 371 = .ok (.iconst 3, 1) := by decide +kernel
theorem dL_372 : decode code 372 = .ok (.iadd, 1) := by decide +kernel
theorem dL_373 : decode code 373 = .ok (.iaload, 1) := by decide +kernel
theorem dL_374 : decode code 374 = .ok (.invokevirtual 41, 3) := by decide +kernel
theorem dL_377 : decode code 377 = .ok (.aload_n 2, 1) := by decide +kernel
theorem dL_378 : decode code 378 = .ok (.aload_n 0, 1) := by decide +kernel
theorem dL_379 : decode code 379 = .ok (.iload_n 3, 1) := by decide +kernel
theorem dL_380 : decode code 380 = .ok (.iconst 1, 1) := by decide +kernel
theorem dL_381 : decode code 381 = .ok (.iadd, 1) := by decide +kernel
theorem dL_382 : decode code 382 = .ok (.iaload, 1) := by decide +kernel
theorem dL_383 : decode code 383 = .ok (.aload_n 0, 1) := by decide +kernel
theorem dL_384 : decode code 384 = .ok (.iload_n 3, 1) := by decide +kernel
theorem dL_385 : decode code 385 = .ok (.iconst 2, 1) := by decide +kernel
theorem dL_386 : decode code 386 = .ok (.iadd, 1) := by decide +kernel
theorem dL_387 : decode code 387 = .ok (.iaload, 1) := by decide +kernel
theorem dL_388 : decode code 388 = .ok (.aload_n 0, 1) := by decide +kernel
theorem dL_389 : decode code 389 = .ok (.iload_n 3, 1) := by decide +kernel
theorem dL_390 : decode code 390 = .ok (.iconst 3, 1) := by decide +kernel
theorem dL_391 : decode code 391 = .ok (.iadd, 1) := by decide +kernel
theorem dL_392 : decode code 392 = .ok (.iaload, 1) := by decide +kernel
theorem dL_393 : decode code 393 = .ok (.invokevirtual 44, 3) := by decide +kernel
theorem dL_396 : decode code 396 = .ok (.if_icmp .eq 203, 3) := by decide +kernel
theorem dL_399 : decode code 399 = .ok (.iconst 0, 1) := by decide +kernel
theorem dL_400 : decode code 400 = .ok (.ireturn, 1) := by decide +kernel
theorem dL_401 : decode code 401 = .ok (.aload_n 1, 1) := by decide +kernel
theorem dL_402 : decode code 402 = .ok (.aload_n 0, 1) := by decide +kernel
theorem dL_403 : decode code 403 = .ok (.iload_n 3, 1) := by decide +kernel
theorem dL_404 : decode code 404 = .ok (.iconst 1, 1) := by decide +kernel
theorem dL_405 : decode code 405 = .ok (.iadd, 1) := by decide +kernel
theorem dL_406 : decode code 406 = .ok (.iaload, 1) := by decide +kernel
theorem dL_407 : decode code 407 = .ok (.aload_n 0, 1) := by decide +kernel
theorem dL_408 : decode code 408 = .ok (.iload_n 3, 1) := by decide +kernel
theorem dL_409 : decode code 409 = .ok (.iconst 2, 1) := by decide +kernel
theorem dL_410 : decode code 410 = .ok (.iadd, 1) := by decide +kernel
theorem dL_411 : decode code 411 = .ok (.iaload, 1) := by decide +kernel
theorem dL_412 : decode code 412 = .ok (.aload_n 0, 1) := by decide +kernel
theorem dL_413 : decode code 413 = .ok (.iload_n 3, 1) := by decide +kernel
theorem dL_414 : decode code 414 = .ok (.iconst 3, 1) := by decide +kernel
theorem dL_415 : decode code 415 = .ok (.iadd, 1) := by decide +kernel
theorem dL_416 : decode code 416 = .ok (.iaload, 1) := by decide +kernel
theorem dL_417 : decode code 417 = .ok (.aload_n 0, 1) := by decide +kernel
theorem dL_418 : decode code 418 = .ok (.iload_n 3, 1) := by decide +kernel
theorem dL_419 : decode code 419 = .ok (.iconst 4, 1) := by decide +kernel
theorem dL_420 : decode code 420 = .ok (.iadd, 1) := by decide +kernel
theorem dL_421 : decode code 421 = .ok (.iaload, 1) := by decide +kernel
theorem dL_422 : decode code 422 = .ok (.invokevirtual 45, 3) := by decide +kernel
theorem dL_425 : decode code 425 = .ok (.aload_n 2, 1) := by decide +kernel
theorem dL_426 : decode code 426 = .ok (.aload_n 0, 1) := by decide +kernel
theorem dL_427 : decode code 427 = .ok (.iload_n 3, 1) := by decide +kernel
theorem dL_428 : decode code 428 = .ok (.iconst 1, 1) := by decide +kernel
theorem dL_429 : decode code 429 = .ok (.iadd, 1) := by decide +kernel
theorem dL_430 : decode code 430 = .ok (.iaload, 1) := by decide +kernel
theorem dL_431 : decode code 431 = .ok (.aload_n 0, 1) := by decide +kernel
theorem dL_432 : decode code 432 = .ok (.iload_n 3, 1) := by decide +kernel
theorem dL_433 : decode code 433 = .ok (.iconst 2, 1) := by decide +kernel
theorem dL_434 : decode code 434 = .ok (.iadd, 1) := by decide +kernel
theorem dL_435 : decode code 435 = .ok (.iaload, 1) := by decide +kernel
theorem dL_436 : decode code 436 = .ok (.aload_n 0, 1) := by decide +kernel
theorem dL_437 : decode code 437 = .ok (.iload_n 3, 1) := by decide +kernel
theorem dL_438 : decode code 438 = .ok (.iconst 3, 1) := by decide +kernel
theorem dL_439 : decode code 439 = .ok (.iadd, 1) := by decide +kernel
theorem dL_440 : decode code 440 = .ok (.iaload, 1) := by decide +kernel
theorem dL_441 : decode code 441 = .ok (.aload_n 0, 1) := by decide +kernel
theorem dL_442 : decode code 442 = .ok (.iload_n 3, 1) := by decide +kernel
theorem dL_443 : decode code 443 = .ok (.iconst 4, 1) := by decide +kernel
theorem dL_444 : decode code 444 = .ok (.iadd, 1) := by decide +kernel
theorem dL_445 : decode code 445 = .ok (.iaload, 1) := by decide +kernel
theorem dL_446 : decode code 446 = .ok (.invokevirtual 48, 3) := by decide +kernel
theorem dL_449 : decode code 449 = .ok (.if_icmp .eq 150, 3) := by decide +kernel
theorem dL_452 : decode code 452 = .ok (.iconst 0, 1) := by decide +kernel
theorem dL_453 : decode code 453 = .ok (.ireturn, 1) := by decide +kernel
theorem dL_454 : decode code 454 = .ok (.aload_n 1, 1) := by decide +kernel
theorem dL_455 : decode code 455 = .ok (.aload_n 0, 1) := by decide +kernel
theorem dL_456 : decode code 456 = .ok (.iload_n 3, 1) := by decide +kernel
theorem dL_457 : decode code 457 = .ok (.iconst 1, 1) := by decide +kernel
theorem dL_458 : decode code 458 = .ok (.iadd, 1) := by decide +kernel
theorem dL_459 : decode code 459 = .ok (.iaload, 1) := by decide +kernel
theorem dL_460 : decode code 460 = .ok (.aload_n 0, 1) := by decide +kernel
theorem dL_461 : decode code 461 = .ok (.iload_n 3, 1) := by decide +kernel
theorem dL_462 : decode code 462 = .ok (.iconst 2, 1) := by decide +kernel
theorem dL_463 : decode code 463 = .ok (.iadd, 1) := by decide +kernel
theorem dL_464 : decode code 464 = .ok (.iaload, 1) := by decide +kernel
theorem dL_465 : decode code 465 = .ok (.invokevirtual 49, 3) := by decide +kernel
theorem dL_468 : decode code 468 = .ok (.aload_n 2, 1) := by decide +kernel
theorem dL_469 : decode code 469 = .ok (.aload_n 0, 1) := by decide +kernel
theorem dL_470 : decode code 470 = .ok (.iload_n 3, 1) := by decide +kernel
theorem dL_471 : decode code 471 = .ok (.iconst 1, 1) := by decide +kernel
theorem dL_472 : decode code 472 = .ok (.iadd, 1) := by decide +kernel
theorem dL_473 : decode code 473 = .ok (.iaload, 1) := by decide +kernel
theorem dL_474 : decode code 474 = .ok (.aload_n 0, 1) := by decide +kernel
theorem dL_475 : decode code 475 = .ok (.iload_n 3, 1) := by decide +kernel
theorem dL_476 : decode code 476 = .ok (.iconst 2, 1) := by decide +kernel
theorem dL_477 : decode code 477 = .ok (.iadd, 1) := by decide +kernel
theorem dL_478 : decode code 478 = .ok (.iaload, 1) := by decide +kernel
theorem dL_479 : decode code 479 = .ok (.invokevirtual 52, 3) := by decide +kernel
theorem dL_482 : decode code 482 = .ok (.if_icmp .eq 117, 3) := by decide +kernel
theorem dL_485 : decode code 485 = .ok (.iconst 0, 1) := by decide +kernel
theorem dL_486 : decode code 486 = .ok (.ireturn, 1) := by decide +kernel
theorem dL_487 : decode code 487 = .ok (.aload_n 1, 1) := by decide +kernel
theorem dL_488 : decode code 488 = .ok (.aload_n 0, 1) := by decide +kernel
theorem dL_489 : decode code 489 = .ok (.iload_n 3, 1) := by decide +kernel
theorem dL_490 : decode code 490 = .ok (.iconst 1, 1) := by decide +kernel
theorem dL_491 : decode code 491 = .ok (.iadd, 1) := by decide +kernel
theorem dL_492 : decode code 492 = .ok (.iaload, 1) := by decide +kernel
theorem dL_493 : decode code 493 = .ok (.invokevirtual 53, 3) := by decide +kernel
theorem dL_496 : decode code 496 = .ok (.aload_n 2, 1) := by decide +kernel
theorem dL_497 : decode code 497 = .ok (.aload_n 0, 1) := by decide +kernel
theorem dL_498 : decode code 498 = .ok (.iload_n 3, 1) := by decide +kernel
theorem dL_499 : decode code 499 = .ok (.iconst 1, 1) := by decide +kernel
theorem dL_500 : decode code 500 = .ok (.iadd, 1) := by decide +kernel
theorem dL_501 : decode code 501 = .ok (.iaload, 1) := by decide +kernel
theorem dL_502 : decode code 502 = .ok (.invokevirtual 57, 3) := by decide +kernel
theorem dL_505 : decode code 505 = .ok (.if_icmp .eq 94, 3) := by decide +kernel
theorem dL_508 : decode code 508 = .ok (.iconst 0, 1) := by decide +kernel
theorem dL_509 : decode code 509 = .ok (.ireturn, 1) := by decide +kernel
theorem dL_510 : decode code 510 = .ok (.aload_n 1, 1) := by decide +kernel
theorem dL_511 : decode code 511 = .ok (.aload_n 0, 1) := by decide +kernel
theorem dL_512 : decode code 512 = .ok (.iload_n 3, 1) := by decide +kernel
theorem dL_513 : decode code 513 = .ok (.iconst 1, 1) := by decide +kernel
theorem dL_514 : decode code 514 = .ok (.iadd, 1) := by decide +kernel
theorem dL_515 : decode code 515 = .ok (.iaload, 1) := by decide +kernel
theorem dL_516 : decode code 516 = .ok (.invokevirtual 58, 3) := by decide +kernel
theorem dL_519 : decode code 519 = .ok (.aload_n 2, 1) := by decide +kernel
theorem dL_520 : decode code 520 = .ok (.aload_n 0, 1) := by decide +kernel
theorem dL_521 : decode code 521 = .ok (.iload_n 3, 1) := by decide +kernel
theorem dL_522 : decode code 522 = .ok (.iconst 1, 1) := by decide +kernel
theorem dL_523 : decode code 523 = .ok (.iadd, 1) := by decide +kernel
theorem dL_524 : decode code 524 = .ok (.iaload, 1) := by decide +kernel
theorem dL_525 : decode code 525 = .ok (.invokevirtual 61, 3) := by decide +kernel
theorem dL_528 : decode code 528 = .ok (.if_icmp .eq 71, 3) := by decide +kernel
theorem dL_531 : decode code 531 = .ok (.iconst 0, 1) := by decide +kernel
theorem dL_532 : decode code 532 = .ok (.ireturn, 1) := by decide +kernel
theorem dL_533 : decode code 533 = .ok (.aload_n 1, 1) := by decide +kernel
theorem dL_534 : decode code 534 = .ok (.aload_n 0, 1) := by decide +kernel
theorem dL_535 : decode code 535 = .ok (.iload_n 3, 1) := by decide +kernel
theorem dL_536 : decode code 536 = .ok (.iconst 1, 1) := by decide +kernel
theorem dL_537 : decode code 537 = .ok (.iadd, 1) := by decide +kernel
theorem dL_538 : decode code 538 = .ok (.iaload, 1) := by decide +kernel
theorem dL_539 : decode code 539 = .ok (.aload_n 0, 1) := by decide +kernel
theorem dL_540 : decode code 540 = .ok (.iload_n 3, 1) := by decide +kernel
theorem dL_541 : decode code 541 = .ok (.iconst 2, 1) := by decide +kernel
theorem dL_542 : decode code 542 = .ok (.iadd, 1) := by decide +kernel
theorem dL_543 : decode code 543 = .ok (.iaload, 1) := by decide +kernel
theorem dL_544 : decode code 544 = .ok (.aload_n 0, 1) := by decide +kernel
theorem dL_545 : decode code 545 = .ok (.iload_n 3, 1) := by decide +kernel
theorem dL_546 : decode code 546 = .ok (.iconst 3, 1) := by decide +kernel
theorem dL_547 : decode code 547 = .ok (.iadd, 1) := by decide +kernel
theorem dL_548 : decode code 548 = .ok (.iaload, 1) := by decide +kernel
theorem dL_549 : decode code 549 = .ok (.invokevirtual 62, 3) := by decide +kernel
theorem dL_552 : decode code 552 = .ok (.aload_n 2, 1) := by decide +kernel
theorem dL_553 : decode code 553 = .ok (.aload_n 0, 1) := by decide +kernel
theorem dL_554 : decode code 554 = .ok (.iload_n 3, 1) := by decide +kernel
theorem dL_555 : decode code 555 = .ok (.iconst 1, 1) := by decide +kernel
theorem dL_556 : decode code 556 = .ok (.iadd, 1) := by decide +kernel
theorem dL_557 : decode code 557 = .ok (.iaload, 1) := by decide +kernel
theorem dL_558 : decode code 558 = .ok (.aload_n 0, 1) := by decide +kernel
theorem dL_559 : decode code 559 = .ok (.iload_n 3, 1) := by decide +kernel
theorem dL_560 : decode code 560 = .ok (.iconst 2, 1) := by decide +kernel
theorem dL_561 : decode code 561 = .ok (.iadd, 1) := by decide +kernel
theorem dL_562 : decode code 562 = .ok (.iaload, 1) := by decide +kernel
theorem dL_563 : decode code 563 = .ok (.aload_n 0, 1) := by decide +kernel
theorem dL_564 : decode code 564 = .ok (.iload_n 3, 1) := by decide +kernel
theorem dL_565 : decode code 565 = .ok (.iconst 3, 1) := by decide +kernel
theorem dL_566 : decode code 566 = .ok (.iadd, 1) := by decide +kernel
theorem dL_567 : decode code 567 = .ok (.iaload, 1) := by decide +kernel
theorem dL_568 : decode code 568 = .ok (.invokevirtual 65, 3) := by decide +kernel
theorem dL_571 : decode code 571 = .ok (.if_icmp .eq 28, 3) := by decide +kernel
theorem dL_574 : decode code 574 = .ok (.iconst 0, 1) := by decide +kernel
theorem dL_575 : decode code 575 = .ok (.ireturn, 1) := by decide +kernel
theorem dL_576 : decode code 576 = .ok (.aload_n 1, 1) := by decide +kernel
theorem dL_577 : decode code 577 = .ok (.aload_n 0, 1) := by decide +kernel
theorem dL_578 : decode code 578 = .ok (.iload_n 3, 1) := by decide +kernel
theorem dL_579 : decode code 579 = .ok (.iconst 1, 1) := by decide +kernel
theorem dL_580 : decode code 580 = .ok (.iadd, 1) := by decide +kernel
theorem dL_581 : decode code 581 = .ok (.iaload, 1) := by decide +kernel
theorem dL_582 : decode code 582 = .ok (.invokevirtual 66, 3) := by decide +kernel
theorem dL_585 : decode code 585 = .ok (.aload_n 2, 1) := by decide +kernel
theorem dL_586 : decode code 586 = .ok (.aload_n 0, 1) := by decide +kernel
theorem dL_587 : decode code 587 = .ok (.iload_n 3, 1) := by decide +kernel
theorem dL_588 : decode code 588 = .ok (.iconst 1, 1) := by decide +kernel
theorem dL_589 : decode code 589 = .ok (.iadd, 1) := by decide +kernel
theorem dL_590 : decode code 590 = .ok (.iaload, 1) := by decide +kernel
theorem dL_591 : decode code 591 = .ok (.invokevirtual 69, 3) := by decide +kernel
theorem dL_594 : decode code 594 = .ok (.if_icmp .eq 5, 3) := by decide +kernel
theorem dL_597 : decode code 597 = .ok (.iconst 0, 1) := by decide +kernel
theorem dL_598 : decode code 598 = .ok (.ireturn, 1) := by decide +kernel
theorem dL_599 : decode code 599 = .ok (.iinc 3 6, 3) := by decide +kernel
theorem dL_602 : decode code 602 = .ok (.goto (-584), 3) := by decide +kernel
theorem dL_605 : decode code 605 = .ok (.iconst 1, 1) := by decide +kernel
theorem dL_606 : decode code 606 = .ok (.ireturn, 1) := by decide +kernel

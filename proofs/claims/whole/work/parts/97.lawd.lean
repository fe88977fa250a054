theorem d_law_0 : decode code 0 = .ok (.new 7, 3) := by decide +kernel
theorem d_law_3 : decode code 3 = .ok (.dup, 1) := by decide +kernel
theorem d_law_4 : decode code 4 = .ok (.invokespecial 9, 3) := by decide +kernel
theorem d_law_7 : decode code 7 = .ok (.astore_n 1, 1) := by decide +kernel
theorem d_law_8 : decode code 8 = .ok (.new 10, 3) := by decide +kernel
theorem d_law_11 : decode code 11 = .ok (.dup, 1) := by decide +kernel
theorem d_law_12 : decode code 12 = .ok (.invokespecial 12, 3) := by decide +kernel
theorem d_law_15 : decode code 15 = .ok (.astore_n 2, 1) := by decide +kernel
theorem d_law_16 : decode code 16 = .ok (.iconst 0, 1) := by decide +kernel
theorem d_law_17 : decode code 17 = .ok (.istore_n 3, 1) := by decide +kernel
theorem d_law_18 : decode code 18 = .ok (.iload_n 3, 1) := by decide +kernel
theorem d_law_19 : decode code 19 = .ok (.aload_n 0, 1) := by decide +kernel
theorem d_law_20 : decode code 20 = .ok (.arraylength, 1) := by decide +kernel
theorem d_law_21 : decode code 21 = .ok (.iconst 5, 1) := by decide +kernel
theorem d_law_22 : decode code 22 = .ok (.isub, 1) := by decide +kernel
theorem d_law_23 : decode code 23 = .ok (.if_icmp .gt 441, 3) := by decide +kernel
theorem d_law_26 : decode code 26 = .ok (.aload_n 0, 1) := by decide +kernel
theorem d_law_27 : decode code 27 = .ok (.iload_n 3, 1) := by decide +kernel
theorem d_law_28 : decode code 28 = .ok (.iaload, 1) := by decide +kernel
theorem d_law_29 : decode code 29 = .ok (.bipush 15, 2) := by decide +kernel
theorem d_law_31 : decode code 31 = .ok (.iand, 1) := by decide +kernel
theorem d_law_32 : decode code 32 = .ok (.tableswitch 426 0 11 #[64, 107, 160, 203, 226, 239, 252, 285, 308, 321, 370, 403], 64) := by decide +kernel
theorem d_law_96 : decode code 96 = .ok (.aload_n 1, 1) := by decide +kernel
theorem d_law_97 : decode code 97 = .ok (.aload_n 0, 1) := by decide +kernel
theorem d_law_98 : decode code 98 = .ok (.iload_n 3, 1) := by decide +kernel
theorem d_law_99 : decode code 99 = .ok (.iconst 1, 1) := by decide +kernel
theorem d_law_100 : decode code 100 = .ok (.iadd, 1) := by decide +kernel
theorem d_law_101 : decode code 101 = .ok (.iaload, 1) := by decide +kernel
theorem d_law_102 : decode code 102 = .ok (.aload_n 0, 1) := by decide +kernel
theorem d_law_103 : decode code 103 = .ok (.iload_n 3, 1) := by decide +kernel
theorem d_law_104 : decode code 104 = .ok (.iconst 2, 1) := by decide +kernel
theorem d_law_105 : decode code 105 = .ok (.iadd, 1) := by decide +kernel
theorem d_law_106 : decode code 106 = .ok (.iaload, 1) := by decide +kernel
theorem d_law_107 : decode code 107 = .ok (.aload_n 0, 1) := by decide +kernel
theorem d_law_108 : decode code 108 = .ok (.iload_n 3, 1) := by decide +kernel
theorem d_law_109 : decode code 109 = .ok (.iconst 3, 1) := by decide +kernel
theorem d_law_110 : decode code 110 = .ok (.iadd, 1) := by decide +kernel
theorem d_law_111 : decode code 111 = .ok (.iaload, 1) := by decide +kernel
theorem d_law_112 : decode code 112 = .ok (.invokevirtual 13, 3) := by decide +kernel
theorem d_law_115 : decode code 115 = .ok (.aload_n 2, 1) := by decide +kernel
theorem d_law_116 : decode code 116 = .ok (.aload_n 0, 1) := by decide +kernel
theorem d_law_117 : decode code 117 = .ok (.iload_n 3, 1) := by decide +kernel
theorem d_law_118 : decode code 118 = .ok (.iconst 1, 1) := by decide +kernel
theorem d_law_119 : decode code 119 = .ok (.iadd, 1) := by decide +kernel
theorem d_law_120 : decode code 120 = .ok (.iaload, 1) := by decide +kernel
theorem d_law_121 : decode code 121 = .ok (.aload_n 0, 1) := by decide +kernel
theorem d_law_122 : decode code 122 = .ok (.iload_n 3, 1) := by decide +kernel
theorem d_law_123 : decode code 123 = .ok (.iconst 2, 1) := by decide +kernel
theorem d_law_124 : decode code 124 = .ok (.iadd, 1) := by decide +kernel
theorem d_law_125 : decode code 125 = .ok (.iaload, 1) := by decide +kernel
theorem d_law_126 : decode code 126 = .ok (.aload_n 0, 1) := by decide +kernel
theorem d_law_127 : decode code 127 = .ok (.iload_n 3, 1) := by decide +kernel
theorem d_law_128 : decode code 128 = .ok (.iconst 3, 1) := by decide +kernel
theorem d_law_129 : decode code 129 = .ok (.iadd, 1) := by decide +kernel
theorem d_law_130 : decode code 130 = .ok (.iaload, 1) := by decide +kernel
theorem d_law_131 : decode code 131 = .ok (.invokevirtual 17, 3) := by decide +kernel
theorem d_law_134 : decode code 134 = .ok (.if_icmp .eq 324, 3) := by decide +kernel
theorem d_law_137 : decode code 137 = .ok (.iconst 0, 1) := by decide +kernel
theorem d_law_138 : decode code 138 = .ok (.ireturn, 1) := by decide +kernel
theorem d_law_139 : decode code 139 = .ok (.aload_n 1, 1) := by decide +kernel
theorem d_law_140 : decode code 140 = .ok (.aload_n 0, 1) := by decide +kernel
theorem d_law_141 : decode code 141 = .ok (.iload_n 3, 1) := by decide +kernel
theorem d_law_142 : decode code 142 = .ok (.iconst 1, 1) := by decide +kernel
theorem d_law_143 : decode code 143 = .ok (.iadd, 1) := by decide +kernel
theorem d_law_144 : decode code 144 = .ok (.iaload, 1) := by decide +kernel
theorem d_law_145 : decode code 145 = .ok (.aload_n 0, 1) := by decide +kernel
theorem d_law_146 : decode code 146 = .ok (.iload_n 3, 1) := by decide +kernel
theorem d_law_147 : decode code 147 = .ok (.iconst 2, 1) := by decide +kernel
theorem d_law_148 : decode code 148 = .ok (.iadd, 1) := by decide +kernel
theorem d_law_149 : decode code 149 = .ok (.iaload, 1) := by decide +kernel
theorem d_law_150 : decode code 150 = .ok (.aload_n 0, 1) := by decide +kernel
theorem d_law_151 : decode code 151 = .ok (.iload_n 3, 1) := by decide +kernel
theorem d_law_152 : decode code 152 = .ok (.iconst 3, 1) := by decide +kernel
theorem d_law_153 : decode code 153 = .ok (.iadd, 1) := by decide +kernel
theorem d_law_154 : decode code 154 = .ok (.iaload, 1) := by decide +kernel
theorem d_law_155 : decode code 155 = .ok (.aload_n 0, 1) := by decide +kernel
theorem d_law_156 : decode code 156 = .ok (.iload_n 3, 1) := by decide +kernel
theorem d_law_157 : decode code 157 = .ok (.iconst 4, 1) := by decide +kernel
theorem d_law_158 : decode code 158 = .ok (.iadd, 1) := by decide +kernel
theorem d_law_159 : decode code 159 = .ok (.iaload, 1) := by decide +kernel
theorem d_law_160 : decode code 160 = .ok (.invokevirtual 18, 3) := by decide +kernel
theorem d_law_163 : decode code 163 = .ok (.aload_n 2, 1) := by decide +kernel
theorem d_law_164 : decode code 164 = .ok (.aload_n 0, 1) := by decide +kernel
theorem d_law_165 : decode code 165 = .ok (.iload_n 3, 1) := by decide +kernel
theorem d_law_166 : decode code 166 = .ok (.iconst 1, 1) := by decide +kernel
theorem d_law_167 : decode code 167 = .ok (.iadd, 1) := by decide +kernel
theorem d_law_168 : decode code 168 = .ok (.iaload, 1) := by decide +kernel
theorem d_law_169 : decode code 169 = .ok (.aload_n 0, 1) := by decide +kernel
theorem d_law_170 : decode code 170 = .ok (.iload_n 3, 1) := by decide +kernel
theorem d_law_171 : decode code 171 = .ok (.iconst 2, 1) := by decide +kernel
theorem d_law_172 : decode code 172 = .ok (.iadd, 1) := by decide +kernel
theorem d_law_173 : decode code 173 = .ok (.iaload, 1) := by decide +kernel
theorem d_law_174 : decode code 174 = .ok (.aload_n 0, 1) := by decide +kernel
theorem d_law_175 : decode code 175 = .ok (.iload_n 3, 1) := by decide +kernel
theorem d_law_176 : decode code 176 = .ok (.iconst 3, 1) := by decide +kernel
theorem d_law_177 : decode code 177 = .ok (.iadd, 1) := by decide +kernel
theorem d_law_178 : decode code 178 = .ok (.iaload, 1) := by decide +kernel
theorem d_law_179 : decode code 179 = .ok (.aload_n 0, 1) := by decide +kernel
theorem d_law_180 : decode code 180 = .ok (.iload_n 3, 1) := by decide +kernel
theorem d_law_181 : decode code 181 = .ok (.iconst 4, 1) := by decide +kernel
theorem d_law_182 : decode code 182 = .ok (.iadd, 1) := by decide +kernel
theorem d_law_183 : decode code 183 = .ok (.iaload, 1) := by decide +kernel
theorem d_law_184 : decode code 184 = .ok (.invokevirtual 22, 3) := by decide +kernel
theorem d_law_187 : decode code 187 = .ok (.if_icmp .eq 271, 3) := by decide +kernel
theorem d_law_190 : decode code 190 = .ok (.iconst 0, 1) := by decide +kernel
theorem d_law_191 : decode code 191 = .ok (.ireturn, 1) := by decide +kernel
theorem d_law_192 : decode code 192 = .ok (.aload_n 1, 1) := by decide +kernel
theorem d_law_193 : decode code 193 = .ok (.aload_n 0, 1) := by decide +kernel
theorem d_law_194 : decode code 194 = .ok (.iload_n 3, 1) := by decide +kernel
theorem d_law_195 : decode code 195 = .ok (.iconst 1, 1) := by decide +kernel
theorem d_law_196 : decode code 196 = .ok (.iadd, 1) := by decide +kernel
theorem d_law_197 : decode code 197 = .ok (.iaload, 1) := by decide +kernel
theorem d_law_198 : decode code 198 = .ok (.aload_n 0, 1) := by decide +kernel
theorem d_law_199 : decode code 199 = .ok (.iload_n 3, 1) := by decide +kernel
theorem d_law_200 : decode code 200 = .ok (.iconst 2, 1) := by decide +kernel
theorem d_law_201 : decode code 201 = .ok (.iadd, 1) := by decide +kernel
theorem d_law_202 : decode code 202 = .ok (.iaload, 1) := by decide +kernel
theorem d_law_203 : decode code 203 = .ok (.aload_n 0, 1) := by decide +kernel
theorem d_law_204 : decode code 204 = .ok (.iload_n 3, 1) := by decide +kernel
theorem d_law_205 : decode code 205 = .ok (.iconst 3, 1) := by decide +kernel
theorem d_law_206 : decode code 206 = .ok (.iadd, 1) := by decide +kernel
theorem d_law_207 : decode code 207 = .ok (.iaload, 1) := by decide +kernel
theorem d_law_208 : decode code 208 = .ok (.invokevirtual 23, 3) := by decide +kernel
theorem d_law_211 : decode code 211 = .ok (.aload_n 2, 1) := by decide +kernel
theorem d_law_212 : decode code 212 = .ok (.aload_n 0, 1) := by decide +kernel
theorem d_law_213 : decode code 213 = .ok (.iload_n 3, 1) := by decide +kernel
theorem d_law_214 : decode code 214 = .ok (.iconst 1, 1) := by decide +kernel
theorem d_law_215 : decode code 215 = .ok (.iadd, 1) := by decide +kernel
theorem d_law_216 : decode code 216 = .ok (.iaload, 1) := by decide +kernel
theorem d_law_217 : decode code 217 = .ok (.aload_n 0, 1) := by decide +kernel
theorem d_law_218 : decode code 218 = .ok (.iload_n 3, 1) := by decide +kernel
theorem d_law_219 : decode code 219 = .ok (.iconst 2, 1) := by decide +kernel
theorem d_law_220 : decode code 220 = .ok (.iadd, 1) := by decide +kernel
theorem d_law_221 : decode code 221 = .ok (.iaload, 1) := by decide +kernel
theorem d_law_222 : decode code 222 = .ok (.aload_n 0, 1) := by decide +kernel
theorem d_law_223 : decode code 223 = .ok (.iload_n 3, 1) := by decide +kernel
theorem d_law_224 : decode code 224 = .ok (.iconst 3, 1) := by decide +kernel
theorem d_law_225 : decode code 225 = .ok (.iadd, 1) := by decide +kernel
theorem d_law_226 : decode code 226 = .ok (.iaload, 1) := by decide +kernel
theorem d_law_227 : decode code 227 = .ok (.invokevirtual 26, 3) := by decide +kernel
theorem d_law_230 : decode code 230 = .ok (.if_icmp .eq 228, 3) := by decide +kernel
theorem d_law_233 : decode code 233 = .ok (.iconst 0, 1) := by decide +kernel
theorem d_law_234 : decode code 234 = .ok (.ireturn, 1) := by decide +kernel
theorem d_law_235 : decode code 235 = .ok (.aload_n 1, 1) := by decide +kernel
theorem d_law_236 : decode code 236 = .ok (.aload_n 0, 1) := by decide +kernel
theorem d_law_237 : decode code 237 = .ok (.iload_n 3, 1) := by decide +kernel
theorem d_law_238 : decode code 238 = .ok (.iconst 1, 1) := by decide +kernel
theorem d_law_239 : decode code 239 = .ok (.iadd, 1) := by decide +kernel
theorem d_law_240 : decode code 240 = .ok (.iaload, 1) := by decide +kernel
theorem d_law_241 : decode code 241 = .ok (.invokevirtual 27, 3) := by decide +kernel
theorem d_law_244 : decode code 244 = .ok (.aload_n 2, 1) := by decide +kernel
theorem d_law_245 : decode code 245 = .ok (.aload_n 0, 1) := by decide +kernel
theorem d_law_246 : decode code 246 = .ok (.iload_n 3, 1) := by decide +kernel
theorem d_law_247 : decode code 247 = .ok (.iconst 1, 1) := by decide +kernel
theorem d_law_248 : decode code 248 = .ok (.iadd, 1) := by decide +kernel
theorem d_law_249 : decode code 249 = .ok (.iaload, 1) := by decide +kernel
theorem d_law_250 : decode code 250 = .ok (.invokevirtual 31, 3) := by decide +kernel
theorem d_law_253 : decode code 253 = .ok (.if_icmp .eq 205, 3) := by decide +kernel
theorem d_law_256 : decode code 256 = .ok (.iconst 0, 1) := by decide +kernel
theorem d_law_257 : decode code 257 = .ok (.ireturn, 1) := by decide +kernel
theorem d_law_258 : decode code 258 = .ok (.aload_n 1, 1) := by decide +kernel
theorem d_law_259 : decode code 259 = .ok (.invokevirtual 32, 3) := by decide +kernel
theorem d_law_262 : decode code 262 = .ok (.aload_n 2, 1) := by decide +kernel
theorem d_law_263 : decode code 263 = .ok (.invokevirtual 36, 3) := by decide +kernel
theorem d_law_266 : decode code 266 = .ok (.if_icmp .eq 192, 3) := by decide +kernel
theorem d_law_269 : decode code 269 = .ok (.iconst 0, 1) := by decide +kernel
theorem d_law_270 : decode code 270 = .ok (.ireturn, 1) := by decide +kernel
theorem d_law_271 : decode code 271 = .ok (.aload_n 1, 1) := by decide +kernel
theorem d_law_272 : decode code 272 = .ok (.invokevirtual 37, 3) := by decide +kernel
theorem d_law_275 : decode code 275 = .ok (.aload_n 2, 1) := by decide +kernel
theorem d_law_276 : decode code 276 = .ok (.invokevirtual 40, 3) := by decide +kernel
theorem d_law_279 : decode code 279 = .ok (.if_icmp .eq 179, 3) := by decide +kernel
theorem d_law_282 : decode code 282 = .ok (.iconst 0, 1) := by decide +kernel
theorem d_law_283 : decode code 283 = .ok (.ireturn, 1) := by decide +kernel
theorem d_law_284 : decode code 284 = .ok (.aload_n 1, 1) := by decide +kernel
theorem d_law_285 : decode code 285 = .ok (.aload_n 0, 1) := by decide +kernel
theorem d_law_286 : decode code 286 = .ok (.iload_n 3, 1) := by decide +kernel
theorem d_law_287 : decode code 287 = .ok (.iconst 1, 1) := by decide +kernel
theorem d_law_288 : decode code 288 = .ok (.iadd, 1) := by decide +kernel
theorem d_law_289 : decode code 289 = .ok (.iaload, 1) := by decide +kernel
theorem d_law_290 : decode code 290 = .ok (.aload_n 0, 1) := by decide +kernel
theorem d_law_291 : decode code 291 = .ok (.iload_n 3, 1) := by decide +kernel
theorem d_law_292 : decode code 292 = .ok (.iconst 2, 1) := by decide +kernel
theorem d_law_293 : decode code 293 = .ok (.iadd, 1) := by decide +kernel
theorem d_law_294 : decode code 294 = .ok (.iaload, 1) := by decide +kernel
theorem d_law_295 : decode code 295 = .ok (.invokevirtual 41, 3) := by decide +kernel
theorem d_law_298 : decode code 298 = .ok (.aload_n 2, 1) := by decide +kernel
theorem d_law_299 : decode code 299 = .ok (.aload_n 0, 1) := by decide +kernel
theorem d_law_300 : decode code 300 = .ok (.iload_n 3, 1) := by decide +kernel
theorem d_law_301 : decode code 301 = .ok (.iconst 1, 1) := by decide +kernel
theorem d_law_302 : decode code 302 = .ok (.iadd, 1) := by decide +kernel
theorem d_law_303 : decode code 303 = .ok (.iaload, 1) := by decide +kernel
theorem d_law_304 : decode code 304 = .ok (.aload_n 0, 1) := by decide +kernel
theorem d_law_305 : decode code 305 = .ok (.iload_n 3, 1) := by decide +kernel
theorem d_law_306 : decode code 306 = .ok (.iconst 2, 1) := by decide +kernel
theorem d_law_307 : decode code 307 = .ok (.iadd, 1) := by decide +kernel
theorem d_law_308 : decode code 308 = .ok (.iaload, 1) := by decide +kernel
theorem d_law_309 : decode code 309 = .ok (.invokevirtual 45, 3) := by decide +kernel
theorem d_law_312 : decode code 312 = .ok (.if_icmp .eq 146, 3) := by decide +kernel
theorem d_law_315 : decode code 315 = .ok (.iconst 0, 1) := by decide +kernel
theorem d_law_316 : decode code 316 = .ok (.ireturn, 1) := by decide +kernel
theorem d_law_317 : decode code 317 = .ok (.aload_n 1, 1) := by decide +kernel
theorem d_law_318 : decode code 318 = .ok (.aload_n 0, 1) := by decide +kernel
theorem d_law_319 : decode code 319 = .ok (.iload_n 3, 1) := by decide +kernel
theorem d_law_320 : decode code 320 = .ok (.iconst 1, 1) := by decide +kernel
theorem d_law_321 : decode code 321 = .ok (.iadd, 1) := by decide +kernel
theorem d_law_322 : decode code 322 = .ok (.iaload, 1) := by decide +kernel
theorem d_law_323 : decode code 323 = .ok (.invokevirtual 46, 3) := by decide +kernel
theorem d_law_326 : decode code 326 = .ok (.aload_n 2, 1) := by decide +kernel
theorem d_law_327 : decode code 327 = .ok (.aload_n 0, 1) := by decide +kernel
theorem d_law_328 : decode code 328 = .ok (.iload_n 3, 1) := by decide +kernel
theorem d_law_329 : decode code 329 = .ok (.iconst 1, 1) := by decide +kernel
theorem d_law_330 : decode code 330 = .ok (.iadd, 1) := by decide +kernel
theorem d_law_331 : decode code 331 = .ok (.iaload, 1) := by decide +kernel
theorem d_law_332 : decode code 332 = .ok (.invokevirtual 49, 3) := by decide +kernel
theorem d_law_335 : decode code 335 = .ok (.if_icmp .eq 123, 3) := by decide +kernel
theorem d_law_338 : decode code 338 = .ok (.iconst 0, 1) := by decide +kernel
theorem d_law_339 : decode code 339 = .ok (.ireturn, 1) := by decide +kernel
theorem d_law_340 : decode code 340 = .ok (.aload_n 1, 1) := by decide +kernel
theorem d_law_341 : decode code 341 = .ok (.invokevirtual 50, 3) := by decide +kernel
theorem d_law_344 : decode code 344 = .ok (.aload_n 2, 1) := by decide +kernel
theorem d_law_345 : decode code 345 = .ok (.invokevirtual 54, 3) := by decide +kernel
theorem d_law_348 : decode code 348 = .ok (.if_icmp .eq 110, 3) := by decide +kernel
theorem d_law_351 : decode code 351 = .ok (.iconst 0, 1) := by decide +kernel
theorem d_law_352 : decode code 352 = .ok (.ireturn, 1) := by decide +kernel
theorem d_law_353 : decode code 353 = .ok (.aload_n 1, 1) := by decide +kernel
theorem d_law_354 : decode code 354 = .ok (.aload_n 0, 1) := by decide +kernel
theorem d_law_355 : decode code 355 = .ok (.iload_n 3, 1) := by decide +kernel
theorem d_law_356 : decode code 356 = .ok (.iconst 1, 1) := by decide +kernel
theorem d_law_357 : decode code 357 = .ok (.iadd, 1) := by decide +kernel
theorem d_law_358 : decode code 358 = .ok (.iaload, 1) := by decide +kernel
theorem d_law_359 : decode code 359 = .ok (.aload_n 0, 1) := by decide +kernel
theorem d_law_360 : decode code 360 = .ok (.iload_n 3, 1) := by decide +kernel
theorem d_law_361 : decode code 361 = .ok (.iconst 2, 1) := by decide +kernel
theorem d_law_362 : decode code 362 = .ok (.iadd, 1) := by decide +kernel
theorem d_law_363 : decode code 363 = .ok (.iaload, 1) := by decide +kernel
theorem d_law_364 : decode code 364 = .ok (.ifCond .eq 7, 3) := by decide +kernel
theorem d_law_367 : decode code 367 = .ok (.iconst 1, 1) := by decide +kernel
theorem d_law_368 : decode code 368 = .ok (.goto 4, 3) := by decide +kernel
theorem d_law_371 : decode code 371 = .ok (.iconst 0, 1) := by decide +kernel
theorem d_law_372 : decode code 372 = .ok (.invokevirtual 55, 3) := by decide +kernel
theorem d_law_375 : decode code 375 = .ok (.aload_n 2, 1) := by decide +kernel
theorem d_law_376 : decode code 376 = .ok (.aload_n 0, 1) := by decide +kernel
theorem d_law_377 : decode code 377 = .ok (.iload_n 3, 1) := by decide +kernel
theorem d_law_378 : decode code 378 = .ok (.iconst 1, 1) := by decide +kernel
theorem d_law_379 : decode code 379 = .ok (.iadd, 1) := by decide +kernel
theorem d_law_380 : decode code 380 = .ok (.iaload, 1) := by decide +kernel
theorem d_law_381 : decode code 381 = .ok (.aload_n 0, 1) := by decide +kernel
theorem d_law_382 : decode code 382 = .ok (.iload_n 3, 1) := by decide +kernel
theorem d_law_383 : decode code 383 = .ok (.iconst 2, 1) := by decide +kernel
theorem d_law_384 : decode code 384 = .ok (.iadd, 1) := by decide +kernel
theorem d_law_385 : decode code 385 = .ok (.iaload, 1) := by decide +kernel
theorem d_law_386 : decode code 386 = .ok (.ifCond .eq 7, 3) := by decide +kernel
theorem d_law_389 : decode code 389 = .ok (.iconst 1, 1) := by decide +kernel
theorem d_law_390 : decode code 390 = .ok (.goto 4, 3) := by decide +kernel
theorem d_law_393 : decode code 393 = .ok (.iconst 0, 1) := by decide +kernel
theorem d_law_394 : decode code 394 = .ok (.invokevirtual 59, 3) := by decide +kernel
theorem d_law_397 : decode code 397 = .ok (.if_icmp .eq 61, 3) := by decide +kernel
theorem d_law_400 : decode code 400 = .ok (.iconst 0, 1) := by decide +kernel
theorem d_law_401 : decode code 401 = .ok (.ireturn, 1) := by decide +kernel
theorem d_law_402 : decode code 402 = .ok (.aload_n 1, 1) := by decide +kernel
theorem d_law_403 : decode code 403 = .ok (.aload_n 0, 1) := by decide +kernel
theorem d_law_404 : decode code 404 = .ok (.iload_n 3, 1) := by decide +kernel
theorem d_law_405 : decode code 405 = .ok (.iconst 1, 1) := by decide +kernel
theorem d_law_406 : decode code 406 = .ok (.iadd, 1) := by decide +kernel
theorem d_law_407 : decode code 407 = .ok (.iaload, 1) := by decide +kernel
theorem d_law_408 : decode code 408 = .ok (.aload_n 0, 1) := by decide +kernel
theorem d_law_409 : decode code 409 = .ok (.iload_n 3, 1) := by decide +kernel
theorem d_law_410 : decode code 410 = .ok (.iconst 2, 1) := by decide +kernel
theorem d_law_411 : decode code 411 = .ok (.iadd, 1) := by decide +kernel
theorem d_law_412 : decode code 412 = .ok (.iaload, 1) := by decide +kernel
theorem d_law_413 : decode code 413 = .ok (.invokevirtual 60, 3) := by decide +kernel
theorem d_law_416 : decode code 416 = .ok (.aload_n 2, 1) := by decide +kernel
theorem d_law_417 : decode code 417 = .ok (.aload_n 0, 1) := by decide +kernel
theorem d_law_418 : decode code 418 = .ok (.iload_n 3, 1) := by decide +kernel
theorem d_law_419 : decode code 419 = .ok (.iconst 1, 1) := by decide +kernel
theorem d_law_420 : decode code 420 = .ok (.iadd, 1) := by decide +kernel
theorem d_law_421 : decode code 421 = .ok (.iaload, 1) := by decide +kernel
theorem d_law_422 : decode code 422 = .ok (.aload_n 0, 1) := by decide +kernel
theorem d_law_423 : decode code 423 = .ok (.iload_n 3, 1) := by decide +kernel
theorem d_law_424 : decode code 424 = .ok (.iconst 2, 1) := by decide +kernel
theorem d_law_425 : decode code 425 = .ok (.iadd, 1) := by decide +kernel
theorem d_law_426 : decode code 426 = .ok (.iaload, 1) := by decide +kernel
theorem d_law_427 : decode code 427 = .ok (.invokevirtual 63, 3) := by decide +kernel
theorem d_law_430 : decode code 430 = .ok (.if_icmp .eq 28, 3) := by decide +kernel
theorem d_law_433 : decode code 433 = .ok (.iconst 0, 1) := by decide +kernel
theorem d_law_434 : decode code 434 = .ok (.ireturn, 1) := by decide +kernel
theorem d_law_435 : decode code 435 = .ok (.aload_n 1, 1) := by decide +kernel
theorem d_law_436 : decode code 436 = .ok (.aload_n 0, 1) := by decide +kernel
theorem d_law_437 : decode code 437 = .ok (.iload_n 3, 1) := by decide +kernel
theorem d_law_438 : decode code 438 = .ok (.iconst 1, 1) := by decide +kernel
theorem d_law_439 : decode code 439 = .ok (.iadd, 1) := by decide +kernel
theorem d_law_440 : decode code 440 = .ok (.iaload, 1) := by decide +kernel
theorem d_law_441 : decode code 441 = .ok (.invokevirtual 64, 3) := by decide +kernel
theorem d_law_444 : decode code 444 = .ok (.aload_n 2, 1) := by decide +kernel
theorem d_law_445 : decode code 445 = .ok (.aload_n 0, 1) := by decide +kernel
theorem d_law_446 : decode code 446 = .ok (.iload_n 3, 1) := by decide +kernel
theorem d_law_447 : decode code 447 = .ok (.iconst 1, 1) := by decide +kernel
theorem d_law_448 : decode code 448 = .ok (.iadd, 1) := by decide +kernel
theorem d_law_449 : decode code 449 = .ok (.iaload, 1) := by decide +kernel
theorem d_law_450 : decode code 450 = .ok (.invokevirtual 67, 3) := by decide +kernel
theorem d_law_453 : decode code 453 = .ok (.if_icmp .eq 5, 3) := by decide +kernel
theorem d_law_456 : decode code 456 = .ok (.iconst 0, 1) := by decide +kernel
theorem d_law_457 : decode code 457 = .ok (.ireturn, 1) := by decide +kernel
theorem d_law_458 : decode code 458 = .ok (.iinc 3 5, 3) := by decide +kernel
theorem d_law_461 : decode code 461 = .ok (.goto (-443), 3) := by decide +kernel
theorem d_law_464 : decode code 464 = .ok (.iconst 1, 1) := by decide +kernel
theorem d_law_465 : decode code 465 = .ok (.ireturn, 1) := by decide +kernel
def LHd (p : Program) (l : Launch) (e : Env) (s : State) (m : MethodId) (below : List Frame) (meth : Method) (c : Code) (dC : Nat → ClassId) (dI : Nat → Nat → Nat) (cI cZ : ClassId) (A : Nat → Prop) (b a_desk a_sig a_kind a_width a_rword a_sop a_sa a_sb a_sc a_stm a_sort a_subject a_source a_elseSeen a_chk a_rao a_ron a_aro a_sip a_sif a_net a_pairs a_depths a_values a_slots a_mkr a_bits a_nbits a_sums a_given a_gfirst a_cond a_insec a_nwords a_mod a_mkind a_mwidth a_mreset a_mop a_mka a_mkb a_mkc a_mheld a_msort a_mof a_mfrom a_mbit a_mdone a_mrests a_mxx a_myy a_mdepth a_mone a_mbefore a_mfirst a_mturned i : Nat) : Prop := ∀ (rd : Nat) (fw : Int32) (ck : Nat) (n : Nat) (Kd : Nat → Nat) (Wd : Nat → Nat) (Rw : Nat → Nat) (Op : Nat → Nat) (Aa : Nat → Int32) (Ab : Nat → Int32) (Ac : Nat → Int32) (ms : Nat) (ow : Nat) (So : Nat → Nat) (Su : Nat → Nat) (Sr : Nat → Nat) (Es : Nat → Nat) (RA : Nat → Nat) (RO : Nat → Nat) (AR : Nat → Nat) (SPt : Nat → Nat) (SFt : Nat → Nat) (g : Nat) (gd : Nat) (st : Nat) (P : Nat → Nat) (Dp : Nat → Nat) (Vv : Nat → Nat) (Sl : Nat → Nat) (Bt : Nat → Nat) (NB : Nat → Nat) (Sm : Nat → Nat) (Gv : Nat → Nat) (Gf : Nat → Nat) (Cn : Nat → Nat) (Is : Nat → Nat) (NW : Nat → Nat) (mG : Nat) (mRs : Nat → Nat) (mOp : Nat → Int32) (mAa : Nat → Int32) (mAb : Nat → Int32) (mAc : Nat → Int32) (mHd : Nat → Nat) (mOf : Nat → Int32) (mFr : Nat → Int32) (mBi : Nat → Nat) (mDn : Nat → Nat) (mRe : Nat → Nat) (mX : Nat → Nat) (mY : Nat → Nat) (mDe : Nat → Nat) (mIo : Nat → Nat) (mBe : Nat → Nat) (mFi : Nat → Nat) (mTu : Nat → Nat) (b_rd : rd ≤ 1) (b_n : n ≤ 14) (b_Kd : ∀ j, Kd j < 4) (b_Wd : ∀ j, Wd j < 9) (b_Rw : ∀ j, Rw j < 256) (b_Op : ∀ j, Op j < 12) (b_ms : ms ≤ 20) (b_ow : ow ≤ 4) (b_So : ∀ j, So j < 4) (b_Su : ∀ j, Su j < 14) (b_Sr : ∀ j, Sr j < 14) (b_Es : ∀ j, Es j < 2) (b_RA : ∀ j, RA j < 16384) (b_RO : ∀ j, RO j < 16384) (b_AR : ∀ j, AR j < 16384) (b_SPt : ∀ j, SPt j < 16384) (b_SFt : ∀ j, SFt j < 16384) (b_g : g ≤ 1280) (b_gd : gd < 1400) (b_st : st ≤ 1) (b_P : ∀ j, P j < 16777216) (b_Dp : ∀ j, Dp j < 1400) (b_Vv : ∀ j, Vv j < 2) (b_Sl : ∀ j, Sl j < 1393) (b_Bt : ∀ j, Bt j < 2786) (b_NB : ∀ j, NB j < 2786) (b_Sm : ∀ j, Sm j < 2786) (b_Gv : ∀ j, Gv j < 2786) (b_Gf : ∀ j, Gf j < 2786) (b_Cn : ∀ j, Cn j < 14) (b_Is : ∀ j, Is j < 2) (b_NW : ∀ j, NW j < 256) (b_mG : mG ≤ 1280) (b_mRs : ∀ j, mRs j < 256) (b_mHd : ∀ j, mHd j < 256) (b_mBi : ∀ j, mBi j < 2786) (b_mDn : ∀ j, mDn j < 2) (b_mRe : ∀ j, mRe j < 2) (b_mX : ∀ j, mX j < 2786) (b_mY : ∀ j, mY j < 2786) (b_mDe : ∀ j, mDe j < 1400) (b_mIo : ∀ j, mIo j < 2) (b_mBe : ∀ j, mBe j < 2786) (b_mFi : ∀ j, mFi j < 2786) (b_mTu : ∀ j, mTu j < 2) (hR : REL n Kd Wd So ms Rw Op Aa Ab Ac Su Sr ow Es mRs mOp mAa mAb mAc mOf mFr) (hN : NETR n Kd Wd Op Aa Ab Ac So Su Sr ms rd g gd P Dp Sl Bt NB st Vv mG mX mY mDe mBi mHd) (H : Heap) (locs : List Loc) (ls : Array Slot) (hP : va_P (dC, dI) classes [(a_desk, .inr (5, [.ref a_sig, .ref a_stm, .ref a_chk, .ref a_net, .ref a_mkr, .ref a_nwords, .int (nI rd), .int fw, .int (nI ck)])), (a_sig, .inr (1, [.ref a_kind, .ref a_width, .ref a_rword, .ref a_sop, .ref a_sa, .ref a_sb, .ref a_sc, .int (nI n)])), (a_kind, .inl (cI, 14, .inl (nF Kd))), (a_width, .inl (cI, 14, .inl (nF Wd))), (a_rword, .inl (cI, 14, .inl (nF Rw))), (a_sop, .inl (cI, 14, .inl (nF Op))), (a_sa, .inl (cI, 14, .inl Aa)), (a_sb, .inl (cI, 14, .inl Ab)), (a_sc, .inl (cI, 14, .inl Ac)), (a_stm, .inr (2, [.ref a_sort, .ref a_subject, .ref a_source, .int (nI ms), .int (nI ow), .ref a_elseSeen])), (a_sort, .inl (cI, 20, .inl (nF So))), (a_subject, .inl (cI, 20, .inl (nF Su))), (a_source, .inl (cI, 20, .inl (nF Sr))), (a_elseSeen, .inl (cZ, 4, .inl (nF Es))), (a_chk, .inr (3, [.ref a_rao, .ref a_sig, .ref a_stm, .ref a_ron, .ref a_aro, .ref a_sip, .ref a_sif])), (a_rao, .inl (cI, 14, .inl (nF RA))), (a_ron, .inl (cI, 14, .inl (nF RO))), (a_aro, .inl (cI, 5, .inl (nF AR))), (a_sip, .inl (cI, 5, .inl (nF SPt))), (a_sif, .inl (cI, 5, .inl (nF SFt))), (a_net, .inr (0, [.int (nI g), .int (nI gd), .ref a_pairs, .ref a_depths, .ref a_values, .ref a_slots, .int (nI st)])), (a_pairs, .inl (cI, 1393, .inl (nF P))), (a_depths, .inl (cI, 1393, .inl (nF Dp))), (a_values, .inl (cI, 1393, .inl (nF Vv))), (a_slots, .inl (cI, 2048, .inl (nF Sl))), (a_mkr, .inr (4, [.ref a_bits, .ref a_nbits, .ref a_sig, .ref a_stm, .ref a_chk, .ref a_net, .ref a_sums, .ref a_given, .ref a_gfirst, .ref a_cond, .ref a_insec])), (a_bits, .inl (cI, 112, .inl (nF Bt))), (a_nbits, .inl (cI, 112, .inl (nF NB))), (a_sums, .inl (cI, 8, .inl (nF Sm))), (a_given, .inl (cI, 5, .inl (nF Gv))), (a_gfirst, .inl (cI, 5, .inl (nF Gf))), (a_cond, .inl (cI, 5, .inl (nF Cn))), (a_insec, .inl (cZ, 5, .inl (nF Is))), (a_nwords, .inl (cI, 14, .inl (nF NW))), (a_mod, .inr (6, [.ref a_mkind, .ref a_mwidth, .ref a_mreset, .ref a_mop, .ref a_mka, .ref a_mkb, .ref a_mkc, .ref a_mheld, .int (nI n), .ref a_msort, .ref a_mof, .ref a_mfrom, .int (nI ms), .ref a_mbit, .ref a_mdone, .ref a_mrests, .ref a_mxx, .ref a_myy, .ref a_mdepth, .ref a_mone, .int (nI mG), .int (nI ck), .int fw, .int (nI rd), .ref a_mbefore, .ref a_mfirst, .ref a_mturned])), (a_mkind, .inl (cI, 14, .inl (nF Kd))), (a_mwidth, .inl (cI, 14, .inl (nF Wd))), (a_mreset, .inl (cI, 14, .inl (nF mRs))), (a_mop, .inl (cI, 14, .inl mOp)), (a_mka, .inl (cI, 14, .inl mAa)), (a_mkb, .inl (cI, 14, .inl mAb)), (a_mkc, .inl (cI, 14, .inl mAc)), (a_mheld, .inl (cI, 14, .inl (nF mHd))), (a_msort, .inl (cI, 20, .inl (nF So))), (a_mof, .inl (cI, 20, .inl mOf)), (a_mfrom, .inl (cI, 20, .inl mFr)), (a_mbit, .inl (cI, 224, .inl (nF mBi))), (a_mdone, .inl (cZ, 14, .inl (nF mDn))), (a_mrests, .inl (cZ, 196, .inl (nF mRe))), (a_mxx, .inl (cI, 2600, .inl (nF mX))), (a_myy, .inl (cI, 2600, .inl (nF mY))), (a_mdepth, .inl (cI, 2600, .inl (nF mDe))), (a_mone, .inl (cZ, 2600, .inl (nF mIo))), (a_mbefore, .inl (cI, 6, .inl (nF mBe))), (a_mfirst, .inl (cI, 6, .inl (nF mFi))), (a_mturned, .inl (cZ, 6, .inl (nF mTu)))] H) (hD : va_D A [(a_desk, .inr (5, [.ref a_sig, .ref a_stm, .ref a_chk, .ref a_net, .ref a_mkr, .ref a_nwords, .int (nI rd), .int fw, .int (nI ck)])), (a_sig, .inr (1, [.ref a_kind, .ref a_width, .ref a_rword, .ref a_sop, .ref a_sa, .ref a_sb, .ref a_sc, .int (nI n)])), (a_kind, .inl (cI, 14, .inl (nF Kd))), (a_width, .inl (cI, 14, .inl (nF Wd))), (a_rword, .inl (cI, 14, .inl (nF Rw))), (a_sop, .inl (cI, 14, .inl (nF Op))), (a_sa, .inl (cI, 14, .inl Aa)), (a_sb, .inl (cI, 14, .inl Ab)), (a_sc, .inl (cI, 14, .inl Ac)), (a_stm, .inr (2, [.ref a_sort, .ref a_subject, .ref a_source, .int (nI ms), .int (nI ow), .ref a_elseSeen])), (a_sort, .inl (cI, 20, .inl (nF So))), (a_subject, .inl (cI, 20, .inl (nF Su))), (a_source, .inl (cI, 20, .inl (nF Sr))), (a_elseSeen, .inl (cZ, 4, .inl (nF Es))), (a_chk, .inr (3, [.ref a_rao, .ref a_sig, .ref a_stm, .ref a_ron, .ref a_aro, .ref a_sip, .ref a_sif])), (a_rao, .inl (cI, 14, .inl (nF RA))), (a_ron, .inl (cI, 14, .inl (nF RO))), (a_aro, .inl (cI, 5, .inl (nF AR))), (a_sip, .inl (cI, 5, .inl (nF SPt))), (a_sif, .inl (cI, 5, .inl (nF SFt))), (a_net, .inr (0, [.int (nI g), .int (nI gd), .ref a_pairs, .ref a_depths, .ref a_values, .ref a_slots, .int (nI st)])), (a_pairs, .inl (cI, 1393, .inl (nF P))), (a_depths, .inl (cI, 1393, .inl (nF Dp))), (a_values, .inl (cI, 1393, .inl (nF Vv))), (a_slots, .inl (cI, 2048, .inl (nF Sl))), (a_mkr, .inr (4, [.ref a_bits, .ref a_nbits, .ref a_sig, .ref a_stm, .ref a_chk, .ref a_net, .ref a_sums, .ref a_given, .ref a_gfirst, .ref a_cond, .ref a_insec])), (a_bits, .inl (cI, 112, .inl (nF Bt))), (a_nbits, .inl (cI, 112, .inl (nF NB))), (a_sums, .inl (cI, 8, .inl (nF Sm))), (a_given, .inl (cI, 5, .inl (nF Gv))), (a_gfirst, .inl (cI, 5, .inl (nF Gf))), (a_cond, .inl (cI, 5, .inl (nF Cn))), (a_insec, .inl (cZ, 5, .inl (nF Is))), (a_nwords, .inl (cI, 14, .inl (nF NW))), (a_mod, .inr (6, [.ref a_mkind, .ref a_mwidth, .ref a_mreset, .ref a_mop, .ref a_mka, .ref a_mkb, .ref a_mkc, .ref a_mheld, .int (nI n), .ref a_msort, .ref a_mof, .ref a_mfrom, .int (nI ms), .ref a_mbit, .ref a_mdone, .ref a_mrests, .ref a_mxx, .ref a_myy, .ref a_mdepth, .ref a_mone, .int (nI mG), .int (nI ck), .int fw, .int (nI rd), .ref a_mbefore, .ref a_mfirst, .ref a_mturned])), (a_mkind, .inl (cI, 14, .inl (nF Kd))), (a_mwidth, .inl (cI, 14, .inl (nF Wd))), (a_mreset, .inl (cI, 14, .inl (nF mRs))), (a_mop, .inl (cI, 14, .inl mOp)), (a_mka, .inl (cI, 14, .inl mAa)), (a_mkb, .inl (cI, 14, .inl mAb)), (a_mkc, .inl (cI, 14, .inl mAc)), (a_mheld, .inl (cI, 14, .inl (nF mHd))), (a_msort, .inl (cI, 20, .inl (nF So))), (a_mof, .inl (cI, 20, .inl mOf)), (a_mfrom, .inl (cI, 20, .inl mFr)), (a_mbit, .inl (cI, 224, .inl (nF mBi))), (a_mdone, .inl (cZ, 14, .inl (nF mDn))), (a_mrests, .inl (cZ, 196, .inl (nF mRe))), (a_mxx, .inl (cI, 2600, .inl (nF mX))), (a_myy, .inl (cI, 2600, .inl (nF mY))), (a_mdepth, .inl (cI, 2600, .inl (nF mDe))), (a_mone, .inl (cZ, 2600, .inl (nF mIo))), (a_mbefore, .inl (cI, 6, .inl (nF mBe))), (a_mfirst, .inl (cI, 6, .inl (nF mFi))), (a_mturned, .inl (cZ, 6, .inl (nF mTu)))]) (hS : va_S A s.heap H locs) (hl : lv_has ls 4 [(0, .ref b), (1, .ref a_desk), (2, .ref a_mod), (3, .int (nI i))]), W p l e room_1 s m #[Value.ref b] below meth c H locs 56 17797 (lw_Z below #[Value.ref b] s) (F0 m 18 ls [])

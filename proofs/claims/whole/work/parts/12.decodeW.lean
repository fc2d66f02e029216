theorem d_W_law_0 : decode code 0 = .ok (.new 7, 3) := by decide +kernel
theorem d_W_law_3 : decode code 3 = .ok (.dup, 1) := by decide +kernel
theorem d_W_law_4 : decode code 4 = .ok (.invokespecial 9, 3) := by decide +kernel
theorem d_W_law_7 : decode code 7 = .ok (.astore_n 1, 1) := by decide +kernel
theorem d_W_law_8 : decode code 8 = .ok (.new 10, 3) := by decide +kernel
theorem d_W_law_11 : decode code 11 = .ok (.dup, 1) := by decide +kernel
theorem d_W_law_12 : decode code 12 = .ok (.invokespecial 12, 3) := by decide +kernel
theorem d_W_law_15 : decode code 15 = .ok (.astore_n 2, 1) := by decide +kernel
theorem d_W_law_16 : decode code 16 = .ok (.iconst 0, 1) := by decide +kernel
theorem d_W_law_17 : decode code 17 = .ok (.istore_n 3, 1) := by decide +kernel
theorem d_W_law_18 : decode code 18 = .ok (.iload_n 3, 1) := by decide +kernel
theorem d_W_law_19 : decode code 19 = .ok (.aload_n 0, 1) := by decide +kernel
theorem d_W_law_20 : decode code 20 = .ok (.arraylength, 1) := by decide +kernel
theorem d_W_law_21 : decode code 21 = .ok (.bipush 6, 2) := by decide +kernel
theorem d_W_law_23 : decode code 23 = .ok (.isub, 1) := by decide +kernel
theorem d_W_law_24 : decode code 24 = .ok (.if_icmp .gt 633, 3) := by decide +kernel
theorem d_W_law_27 : decode code 27 = .ok (.aload_n 0, 1) := by decide +kernel
theorem d_W_law_28 : decode code 28 = .ok (.iload_n 3, 1) := by decide +kernel
theorem d_W_law_29 : decode code 29 = .ok (.iaload, 1) := by decide +kernel
theorem d_W_law_30 : decode code 30 = .ok (.bipush 31, 2) := by decide +kernel
theorem d_W_law_32 : decode code 32 = .ok (.iand, 1) := by decide +kernel
theorem d_W_law_33 : decode code 33 = .ok (.tableswitch 618 0 16 #[83, 146, 189, 222, 245, 282, 335, 388, 431, 454, 487, 500, 513, 536, 559, 572, 585], 83) := by decide +kernel
theorem d_W_law_116 : decode code 116 = .ok (.aload_n 1, 1) := by decide +kernel
theorem d_W_law_117 : decode code 117 = .ok (.aload_n 0, 1) := by decide +kernel
theorem d_W_law_118 : decode code 118 = .ok (.iload_n 3, 1) := by decide +kernel
theorem d_W_law_119 : decode code 119 = .ok (.iconst 1, 1) := by decide +kernel
theorem d_W_law_120 : decode code 120 = .ok (.iadd, 1) := by decide +kernel
theorem d_W_law_121 : decode code 121 = .ok (.iaload, 1) := by decide +kernel
theorem d_W_law_122 : decode code 122 = .ok (.aload_n 0, 1) := by decide +kernel
theorem d_W_law_123 : decode code 123 = .ok (.iload_n 3, 1) := by decide +kernel
theorem d_W_law_124 : decode code 124 = .ok (.iconst 2, 1) := by decide +kernel
theorem d_W_law_125 : decode code 125 = .ok (.iadd, 1) := by decide +kernel
theorem d_W_law_126 : decode code 126 = .ok (.iaload, 1) := by decide +kernel
theorem d_W_law_127 : decode code 127 = .ok (.aload_n 0, 1) := by decide +kernel
theorem d_W_law_128 : decode code 128 = .ok (.iload_n 3, 1) := by decide +kernel
theorem d_W_law_129 : decode code 129 = .ok (.iconst 3, 1) := by decide +kernel
theorem d_W_law_130 : decode code 130 = .ok (.iadd, 1) := by decide +kernel
theorem d_W_law_131 : decode code 131 = .ok (.iaload, 1) := by decide +kernel
theorem d_W_law_132 : decode code 132 = .ok (.aload_n 0, 1) := by decide +kernel
theorem d_W_law_133 : decode code 133 = .ok (.iload_n 3, 1) := by decide +kernel
theorem d_W_law_134 : decode code 134 = .ok (.iconst 4, 1) := by decide +kernel
theorem d_W_law_135 : decode code 135 = .ok (.iadd, 1) := by decide +kernel
theorem d_W_law_136 : decode code 136 = .ok (.iaload, 1) := by decide +kernel
theorem d_W_law_137 : decode code 137 = .ok (.aload_n 0, 1) := by decide +kernel
theorem d_W_law_138 : decode code 138 = .ok (.iload_n 3, 1) := by decide +kernel
theorem d_W_law_139 : decode code 139 = .ok (.iconst 5, 1) := by decide +kernel
theorem d_W_law_140 : decode code 140 = .ok (.iadd, 1) := by decide +kernel
theorem d_W_law_141 : decode code 141 = .ok (.iaload, 1) := by decide +kernel
theorem d_W_law_142 : decode code 142 = .ok (.invokevirtual 13, 3) := by decide +kernel
theorem d_W_law_145 : decode code 145 = .ok (.aload_n 2, 1) := by decide +kernel
theorem d_W_law_146 : decode code 146 = .ok (.aload_n 0, 1) := by decide +kernel
theorem d_W_law_147 : decode code 147 = .ok (.iload_n 3, 1) := by decide +kernel
theorem d_W_law_148 : decode code 148 = .ok (.iconst 1, 1) := by decide +kernel
theorem d_W_law_149 : decode code 149 = .ok (.iadd, 1) := by decide +kernel
theorem d_W_law_150 : decode code 150 = .ok (.iaload, 1) := by decide +kernel
theorem d_W_law_151 : decode code 151 = .ok (.aload_n 0, 1) := by decide +kernel
theorem d_W_law_152 : decode code 152 = .ok (.iload_n 3, 1) := by decide +kernel
theorem d_W_law_153 : decode code 153 = .ok (.iconst 2, 1) := by decide +kernel
theorem d_W_law_154 : decode code 154 = .ok (.iadd, 1) := by decide +kernel
theorem d_W_law_155 : decode code 155 = .ok (.iaload, 1) := by decide +kernel
theorem d_W_law_156 : decode code 156 = .ok (.aload_n 0, 1) := by decide +kernel
theorem d_W_law_157 : decode code 157 = .ok (.iload_n 3, 1) := by decide +kernel
theorem d_W_law_158 : decode code 158 = .ok (.iconst 3, 1) := by decide +kernel
theorem d_W_law_159 : decode code 159 = .ok (.iadd, 1) := by decide +kernel
theorem d_W_law_160 : decode code 160 = .ok (.iaload, 1) := by decide +kernel
theorem d_W_law_161 : decode code 161 = .ok (.aload_n 0, 1) := by decide +kernel
theorem d_W_law_162 : decode code 162 = .ok (.iload_n 3, 1) := by decide +kernel
theorem d_W_law_163 : decode code 163 = .ok (.iconst 4, 1) := by decide +kernel
theorem d_W_law_164 : decode code 164 = .ok (.iadd, 1) := by decide +kernel
theorem d_W_law_165 : decode code 165 = .ok (.iaload, 1) := by decide +kernel
theorem d_W_law_166 : decode code 166 = .ok (.aload_n 0, 1) := by decide +kernel
theorem d_W_law_167 : decode code 167 = .ok (.iload_n 3, 1) := by decide +kernel
theorem d_W_law_168 : decode code 168 = .ok (.iconst 5, 1) := by decide +kernel
theorem d_W_law_169 : decode code 169 = .ok (.iadd, 1) := by decide +kernel
theorem d_W_law_170 : decode code 170 = .ok (.iaload, 1) := by decide +kernel
theorem d_W_law_171 : decode code 171 = .ok (.invokevirtual 17, 3) := by decide +kernel
theorem d_W_law_174 : decode code 174 = .ok (.if_icmp .eq 477, 3) := by decide +kernel
theorem d_W_law_177 : decode code 177 = .ok (.iconst 0, 1) := by decide +kernel
theorem d_W_law_178 : decode code 178 = .ok (.ireturn, 1) := by decide +kernel
theorem d_W_law_179 : decode code 179 = .ok (.aload_n 1, 1) := by decide +kernel
theorem d_W_law_180 : decode code 180 = .ok (.aload_n 0, 1) := by decide +kernel
theorem d_W_law_181 : decode code 181 = .ok (.iload_n 3, 1) := by decide +kernel
theorem d_W_law_182 : decode code 182 = .ok (.iconst 1, 1) := by decide +kernel
theorem d_W_law_183 : decode code 183 = .ok (.iadd, 1) := by decide +kernel
theorem d_W_law_184 : decode code 184 = .ok (.iaload, 1) := by decide +kernel
theorem d_W_law_185 : decode code 185 = .ok (.aload_n 0, 1) := by decide +kernel
theorem d_W_law_186 : decode code 186 = .ok (.iload_n 3, 1) := by decide +kernel
theorem d_W_law_187 : decode code 187 = .ok (.iconst 2, 1) := by decide +kernel
theorem d_W_law_188 : decode code 188 = .ok (.iadd, 1) := by decide +kernel
theorem d_W_law_189 : decode code 189 = .ok (.iaload, 1) := by decide +kernel
theorem d_W_law_190 : decode code 190 = .ok (.aload_n 0, 1) := by decide +kernel
theorem d_W_law_191 : decode code 191 = .ok (.iload_n 3, 1) := by decide +kernel
theorem d_W_law_192 : decode code 192 = .ok (.iconst 3, 1) := by decide +kernel
theorem d_W_law_193 : decode code 193 = .ok (.iadd, 1) := by decide +kernel
theorem d_W_law_194 : decode code 194 = .ok (.iaload, 1) := by decide +kernel
theorem d_W_law_195 : decode code 195 = .ok (.invokevirtual 18, 3) := by decide +kernel
theorem d_W_law_198 : decode code 198 = .ok (.aload_n 2, 1) := by decide +kernel
theorem d_W_law_199 : decode code 199 = .ok (.aload_n 0, 1) := by decide +kernel
theorem d_W_law_200 : decode code 200 = .ok (.iload_n 3, 1) := by decide +kernel
theorem d_W_law_201 : decode code 201 = .ok (.iconst 1, 1) := by decide +kernel
theorem d_W_law_202 : decode code 202 = .ok (.iadd, 1) := by decide +kernel
theorem d_W_law_203 : decode code 203 = .ok (.iaload, 1) := by decide +kernel
theorem d_W_law_204 : decode code 204 = .ok (.aload_n 0, 1) := by decide +kernel
theorem d_W_law_205 : decode code 205 = .ok (.iload_n 3, 1) := by decide +kernel
theorem d_W_law_206 : decode code 206 = .ok (.iconst 2, 1) := by decide +kernel
theorem d_W_law_207 : decode code 207 = .ok (.iadd, 1) := by decide +kernel
theorem d_W_law_208 : decode code 208 = .ok (.iaload, 1) := by decide +kernel
theorem d_W_law_209 : decode code 209 = .ok (.aload_n 0, 1) := by decide +kernel
theorem d_W_law_210 : decode code 210 = .ok (.iload_n 3, 1) := by decide +kernel
theorem d_W_law_211 : decode code 211 = .ok (.iconst 3, 1) := by decide +kernel
theorem d_W_law_212 : decode code 212 = .ok (.iadd, 1) := by decide +kernel
theorem d_W_law_213 : decode code 213 = .ok (.iaload, 1) := by decide +kernel
theorem d_W_law_214 : decode code 214 = .ok (.invokevirtual 22, 3) := by decide +kernel
theorem d_W_law_217 : decode code 217 = .ok (.if_icmp .eq 434, 3) := by decide +kernel
theorem d_W_law_220 : decode code 220 = .ok (.iconst 0, 1) := by decide +kernel
theorem d_W_law_221 : decode code 221 = .ok (.ireturn, 1) := by decide +kernel
theorem d_W_law_222 : decode code 222 = .ok (.aload_n 1, 1) := by decide +kernel
theorem d_W_law_223 : decode code 223 = .ok (.aload_n 0, 1) := by decide +kernel
theorem d_W_law_224 : decode code 224 = .ok (.iload_n 3, 1) := by decide +kernel
theorem d_W_law_225 : decode code 225 = .ok (.iconst 1, 1) := by decide +kernel
theorem d_W_law_226 : decode code 226 = .ok (.iadd, 1) := by decide +kernel
theorem d_W_law_227 : decode code 227 = .ok (.iaload, 1) := by decide +kernel
theorem d_W_law_228 : decode code 228 = .ok (.aload_n 0, 1) := by decide +kernel
theorem d_W_law_229 : decode code 229 = .ok (.iload_n 3, 1) := by decide +kernel
theorem d_W_law_230 : decode code 230 = .ok (.iconst 2, 1) := by decide +kernel
theorem d_W_law_231 : decode code 231 = .ok (.iadd, 1) := by decide +kernel
theorem d_W_law_232 : decode code 232 = .ok (.iaload, 1) := by decide +kernel
theorem d_W_law_233 : decode code 233 = .ok (.invokevirtual 23, 3) := by decide +kernel
theorem d_W_law_236 : decode code 236 = .ok (.aload_n 2, 1) := by decide +kernel
theorem d_W_law_237 : decode code 237 = .ok (.aload_n 0, 1) := by decide +kernel
theorem d_W_law_238 : decode code 238 = .ok (.iload_n 3, 1) := by decide +kernel
theorem d_W_law_239 : decode code 239 = .ok (.iconst 1, 1) := by decide +kernel
theorem d_W_law_240 : decode code 240 = .ok (.iadd, 1) := by decide +kernel
theorem d_W_law_241 : decode code 241 = .ok (.iaload, 1) := by decide +kernel
theorem d_W_law_242 : decode code 242 = .ok (.aload_n 0, 1) := by decide +kernel
theorem d_W_law_243 : decode code 243 = .ok (.iload_n 3, 1) := by decide +kernel
theorem d_W_law_244 : decode code 244 = .ok (.iconst 2, 1) := by decide +kernel
theorem d_W_law_245 : decode code 245 = .ok (.iadd, 1) := by decide +kernel
theorem d_W_law_246 : decode code 246 = .ok (.iaload, 1) := by decide +kernel
theorem d_W_law_247 : decode code 247 = .ok (.invokevirtual 27, 3) := by decide +kernel
theorem d_W_law_250 : decode code 250 = .ok (.if_icmp .eq 401, 3) := by decide +kernel
theorem d_W_law_253 : decode code 253 = .ok (.iconst 0, 1) := by decide +kernel
theorem d_W_law_254 : decode code 254 = .ok (.ireturn, 1) := by decide +kernel
theorem d_W_law_255 : decode code 255 = .ok (.aload_n 1, 1) := by decide +kernel
theorem d_W_law_256 : decode code 256 = .ok (.aload_n 0, 1) := by decide +kernel
theorem d_W_law_257 : decode code 257 = .ok (.iload_n 3, 1) := by decide +kernel
theorem d_W_law_258 : decode code 258 = .ok (.iconst 1, 1) := by decide +kernel
theorem d_W_law_259 : decode code 259 = .ok (.iadd, 1) := by decide +kernel
theorem d_W_law_260 : decode code 260 = .ok (.iaload, 1) := by decide +kernel
theorem d_W_law_261 : decode code 261 = .ok (.invokevirtual 28, 3) := by decide +kernel
theorem d_W_law_264 : decode code 264 = .ok (.aload_n 2, 1) := by decide +kernel
theorem d_W_law_265 : decode code 265 = .ok (.aload_n 0, 1) := by decide +kernel
theorem d_W_law_266 : decode code 266 = .ok (.iload_n 3, 1) := by decide +kernel
theorem d_W_law_267 : decode code 267 = .ok (.iconst 1, 1) := by decide +kernel
theorem d_W_law_268 : decode code 268 = .ok (.iadd, 1) := by decide +kernel
theorem d_W_law_269 : decode code 269 = .ok (.iaload, 1) := by decide +kernel
theorem d_W_law_270 : decode code 270 = .ok (.invokevirtual 32, 3) := by decide +kernel
theorem d_W_law_273 : decode code 273 = .ok (.if_icmp .eq 378, 3) := by decide +kernel
theorem d_W_law_276 : decode code 276 = .ok (.iconst 0, 1) := by decide +kernel
theorem d_W_law_277 : decode code 277 = .ok (.ireturn, 1) := by decide +kernel
theorem d_W_law_278 : decode code 278 = .ok (.aload_n 1, 1) := by decide +kernel
theorem d_W_law_279 : decode code 279 = .ok (.aload_n 0, 1) := by decide +kernel
theorem d_W_law_280 : decode code 280 = .ok (.iload_n 3, 1) := by decide +kernel
theorem d_W_law_281 : decode code 281 = .ok (.iconst 1, 1) := by decide +kernel
theorem d_W_law_282 : decode code 282 = .ok (.iadd, 1) := by decide +kernel
theorem d_W_law_283 : decode code 283 = .ok (.iaload, 1) := by decide +kernel
theorem d_W_law_284 : decode code 284 = .ok (.ifCond .eq 7, 3) := by decide +kernel
theorem d_W_law_287 : decode code 287 = .ok (.iconst 1, 1) := by decide +kernel
theorem d_W_law_288 : decode code 288 = .ok (.goto 4, 3) := by decide +kernel
theorem d_W_law_291 : decode code 291 = .ok (.iconst 0, 1) := by decide +kernel
theorem d_W_law_292 : decode code 292 = .ok (.invokevirtual 33, 3) := by decide +kernel
theorem d_W_law_295 : decode code 295 = .ok (.aload_n 2, 1) := by decide +kernel
theorem d_W_law_296 : decode code 296 = .ok (.aload_n 0, 1) := by decide +kernel
theorem d_W_law_297 : decode code 297 = .ok (.iload_n 3, 1) := by decide +kernel
theorem d_W_law_298 : decode code 298 = .ok (.iconst 1, 1) := by decide +kernel
theorem d_W_law_299 : decode code 299 = .ok (.iadd, 1) := by decide +kernel
theorem d_W_law_300 : decode code 300 = .ok (.iaload, 1) := by decide +kernel
theorem d_W_law_301 : decode code 301 = .ok (.ifCond .eq 7, 3) := by decide +kernel
theorem d_W_law_304 : decode code 304 = .ok (.iconst 1, 1) := by decide +kernel
theorem d_W_law_305 : decode code 305 = .ok (.goto 4, 3) := by decide +kernel
theorem d_W_law_308 : decode code 308 = .ok (.iconst 0, 1) := by decide +kernel
theorem d_W_law_309 : decode code 309 = .ok (.invokevirtual 37, 3) := by decide +kernel
theorem d_W_law_312 : decode code 312 = .ok (.goto 339, 3) := by decide +kernel
theorem d_W_law_315 : decode code 315 = .ok (.aload_n 1, 1) := by decide +kernel
theorem d_W_law_316 : decode code 316 = .ok (.aload_n 0, 1) := by decide +kernel
theorem d_W_law_317 : decode code 317 = .ok (.iload_n 3, 1) := by decide +kernel
theorem d_W_law_318 : decode code 318 = .ok (.iconst 1, 1) := by decide +kernel
theorem d_W_law_319 : decode code 319 = .ok (.iadd, 1) := by decide +kernel
theorem d_W_law_320 : decode code 320 = .ok (.iaload, 1) := by decide +kernel
theorem d_W_law_321 : decode code 321 = .ok (.aload_n 0, 1) := by decide +kernel
theorem d_W_law_322 : decode code 322 = .ok (.iload_n 3, 1) := by decide +kernel
theorem d_W_law_323 : decode code 323 = .ok (.iconst 2, 1) := by decide +kernel
theorem d_W_law_324 : decode code 324 = .ok (.iadd, 1) := by decide +kernel
theorem d_W_law_325 : decode code 325 = .ok (.iaload, 1) := by decide +kernel
theorem d_W_law_326 : decode code 326 = .ok (.aload_n 0, 1) := by decide +kernel
theorem d_W_law_327 : decode code 327 = .ok (.iload_n 3, 1) := by decide +kernel
theorem d_W_law_328 : decode code 328 = .ok (.iconst 3, 1) := by decide +kernel
theorem d_W_law_329 : decode code 329 = .ok (.iadd, 1) := by decide +kernel
theorem d_W_law_330 : decode code 330 = .ok (.iaload, 1) := by decide +kernel
theorem d_W_law_331 : decode code 331 = .ok (.aload_n 0, 1) := by decide +kernel
theorem d_W_law_332 : decode code 332 = .ok (.iload_n 3, 1) := by decide +kernel
theorem d_W_law_333 : decode code 333 = .ok (.iconst 4, 1) := by decide +kernel
theorem d_W_law_334 : decode code 334 = .ok (.iadd, 1) := by decide +kernel
theorem d_W_law_335 : decode code 335 = .ok (.iaload, 1) := by decide +kernel
theorem d_W_law_336 : decode code 336 = .ok (.invokevirtual 38, 3) := by decide +kernel
theorem d_W_law_339 : decode code 339 = .ok (.aload_n 2, 1) := by decide +kernel
theorem d_W_law_340 : decode code 340 = .ok (.aload_n 0, 1) := by decide +kernel
theorem d_W_law_341 : decode code 341 = .ok (.iload_n 3, 1) := by decide +kernel
theorem d_W_law_342 : decode code 342 = .ok (.iconst 1, 1) := by decide +kernel
theorem d_W_law_343 : decode code 343 = .ok (.iadd, 1) := by decide +kernel
theorem d_W_law_344 : decode code 344 = .ok (.iaload, 1) := by decide +kernel
theorem d_W_law_345 : decode code 345 = .ok (.aload_n 0, 1) := by decide +kernel
theorem d_W_law_346 : decode code 346 = .ok (.iload_n 3, 1) := by decide +kernel
theorem d_W_law_347 : decode code 347 = .ok (.iconst 2, 1) := by decide +kernel
theorem d_W_law_348 : decode code 348 = .ok (.iadd, 1) := by decide +kernel
theorem d_W_law_349 : decode code 349 = .ok (.iaload, 1) := by decide +kernel
theorem d_W_law_350 : decode code 350 = .ok (.aload_n 0, 1) := by decide +kernel
theorem d_W_law_351 : decode code 351 = .ok (.iload_n 3, 1) := by decide +kernel
theorem d_W_law_352 : decode code 352 = .ok (.iconst 3, 1) := by decide +kernel
theorem d_W_law_353 : decode code 353 = .ok (.iadd, 1) := by decide +kernel
theorem d_W_law_354 : decode code 354 = .ok (.iaload, 1) := by decide +kernel
theorem d_W_law_355 : decode code 355 = .ok (.aload_n 0, 1) := by decide +kernel
theorem d_W_law_356 : decode code 356 = .ok (.iload_n 3, 1) := by decide +kernel
theorem d_W_law_357 : decode code 357 = .ok (.iconst 4, 1) := by decide +kernel
theorem d_W_law_358 : decode code 358 = .ok (.iadd, 1) := by decide +kernel
theorem d_W_law_359 : decode code 359 = .ok (.iaload, 1) := by decide +kernel
theorem d_W_law_360 : decode code 360 = .ok (.invokevirtual 42, 3) := by decide +kernel
theorem d_W_law_363 : decode code 363 = .ok (.if_icmp .eq 288, 3) := by decide +kernel
theorem d_W_law_366 : decode code 366 = .ok (.iconst 0, 1) := by decide +kernel
theorem d_W_law_367 : decode code 367 = .ok (.ireturn, 1) := by decide +kernel
theorem d_W_law_368 : decode code 368 = .ok (.aload_n 1, 1) := by decide +kernel
theorem d_W_law_369 : decode code 369 = .ok (.aload_n 0, 1) := by decide +kernel
theorem d_W_law_370 : decode code 370 = .ok (.iload_n 3, 1) := by decide +kernel
theorem d_W_law_371 : decode code 371 = .ok (.iconst 1, 1) := by decide +kernel
theorem d_W_law_372 : decode code 372 = .ok (.iadd, 1) := by decide +kernel
theorem d_W_law_373 : decode code 373 = .ok (.iaload, 1) := by decide +kernel
theorem d_W_law_374 : decode code 374 = .ok (.aload_n 0, 1) := by decide +kernel
theorem d_W_law_375 : decode code 375 = .ok (.iload_n 3, 1) := by decide +kernel
theorem d_W_law_376 : decode code 376 = .ok (.iconst 2, 1) := by decide +kernel
theorem d_W_law_377 : decode code 377 = .ok (.iadd, 1) := by decide +kernel
theorem d_W_law_378 : decode code 378 = .ok (.iaload, 1) := by decide +kernel
theorem d_W_law_379 : decode code 379 = .ok (.aload_n 0, 1) := by decide +kernel
theorem d_W_law_380 : decode code 380 = .ok (.iload_n 3, 1) := by decide +kernel
theorem d_W_law_381 : decode code 381 = .ok (.iconst 3, 1) := by decide +kernel
theorem d_W_law_382 : decode code 382 = .ok (.iadd, 1) := by decide +kernel
theorem d_W_law_383 : decode code 383 = .ok (.iaload, 1) := by decide +kernel
theorem d_W_law_384 : decode code 384 = .ok (.aload_n 0, 1) := by decide +kernel
theorem d_W_law_385 : decode code 385 = .ok (.iload_n 3, 1) := by decide +kernel
theorem d_W_law_386 : decode code 386 = .ok (.iconst 4, 1) := by decide +kernel
theorem d_W_law_387 : decode code 387 = .ok (.iadd, 1) := by decide +kernel
theorem d_W_law_388 : decode code 388 = .ok (.iaload, 1) := by decide +kernel
theorem d_W_law_389 : decode code 389 = .ok (.invokevirtual 43, 3) := by decide +kernel
theorem d_W_law_392 : decode code 392 = .ok (.aload_n 2, 1) := by decide +kernel
theorem d_W_law_393 : decode code 393 = .ok (.aload_n 0, 1) := by decide +kernel
theorem d_W_law_394 : decode code 394 = .ok (.iload_n 3, 1) := by decide +kernel
theorem d_W_law_395 : decode code 395 = .ok (.iconst 1, 1) := by decide +kernel
theorem d_W_law_396 : decode code 396 = .ok (.iadd, 1) := by decide +kernel
theorem d_W_law_397 : decode code 397 = .ok (.iaload, 1) := by decide +kernel
theorem d_W_law_398 : decode code 398 = .ok (.aload_n 0, 1) := by decide +kernel
theorem d_W_law_399 : decode code 399 = .ok (.iload_n 3, 1) := by decide +kernel
theorem d_W_law_400 : decode code 400 = .ok (.iconst 2, 1) := by decide +kernel
theorem d_W_law_401 : decode code 401 = .ok (.iadd, 1) := by decide +kernel
theorem d_W_law_402 : decode code 402 = .ok (.iaload, 1) := by decide +kernel
theorem d_W_law_403 : decode code 403 = .ok (.aload_n 0, 1) := by decide +kernel
theorem d_W_law_404 : decode code 404 = .ok (.iload_n 3, 1) := by decide +kernel
theorem d_W_law_405 : decode code 405 = .ok (.iconst 3, 1) := by decide +kernel
theorem d_W_law_406 : decode code 406 = .ok (.iadd, 1) := by decide +kernel
theorem d_W_law_407 : decode code 407 = .ok (.iaload, 1) := by decide +kernel
theorem d_W_law_408 : decode code 408 = .ok (.aload_n 0, 1) := by decide +kernel
theorem d_W_law_409 : decode code 409 = .ok (.iload_n 3, 1) := by decide +kernel
theorem d_W_law_410 : decode code 410 = .ok (.iconst 4, 1) := by decide +kernel
theorem d_W_law_411 : decode code 411 = .ok (.iadd, 1) := by decide +kernel
theorem d_W_law_412 : decode code 412 = .ok (.iaload, 1) := by decide +kernel
theorem d_W_law_413 : decode code 413 = .ok (.invokevirtual 46, 3) := by decide +kernel
theorem d_W_law_416 : decode code 416 = .ok (.if_icmp .eq 235, 3) := by decide +kernel
theorem d_W_law_419 : decode code 419 = .ok (.iconst 0, 1) := by decide +kernel
theorem d_W_law_420 : decode code 420 = .ok (.ireturn, 1) := by decide +kernel
theorem d_W_law_421 : decode code 421 = .ok (.aload_n 1, 1) := by decide +kernel
theorem d_W_law_422 : decode code 422 = .ok (.aload_n 0, 1) := by decide +kernel
theorem d_W_law_423 : decode code 423 = .ok (.iload_n 3, 1) := by decide +kernel
theorem d_W_law_424 : decode code 424 = .ok (.iconst 1, 1) := by decide +kernel
theorem d_W_law_425 : decode code 425 = .ok (.iadd, 1) := by decide +kernel
theorem d_W_law_426 : decode code 426 = .ok (.iaload, 1) := by decide +kernel
theorem d_W_law_427 : decode code 427 = .ok (.aload_n 0, 1) := by decide +kernel
theorem d_W_law_428 : decode code 428 = .ok (.iload_n 3, 1) := by decide +kernel
theorem d_W_law_429 : decode code 429 = .ok (.iconst 2, 1) := by decide +kernel
theorem d_W_law_430 : decode code 430 = .ok (.iadd, 1) := by decide +kernel
theorem d_W_law_431 : decode code 431 = .ok (.iaload, 1) := by decide +kernel
theorem d_W_law_432 : decode code 432 = .ok (.aload_n 0, 1) := by decide +kernel
theorem d_W_law_433 : decode code 433 = .ok (.iload_n 3, 1) := by decide +kernel
theorem d_W_law_434 : decode code 434 = .ok (.iconst 3, 1) := by decide +kernel
theorem d_W_law_435 : decode code 435 = .ok (.iadd, 1) := by decide +kernel
theorem d_W_law_436 : decode code 436 = .ok (.iaload, 1) := by decide +kernel
theorem d_W_law_437 : decode code 437 = .ok (.invokevirtual 47, 3) := by decide +kernel
theorem d_W_law_440 : decode code 440 = .ok (.aload_n 2, 1) := by decide +kernel
theorem d_W_law_441 : decode code 441 = .ok (.aload_n 0, 1) := by decide +kernel
theorem d_W_law_442 : decode code 442 = .ok (.iload_n 3, 1) := by decide +kernel
theorem d_W_law_443 : decode code 443 = .ok (.iconst 1, 1) := by decide +kernel
theorem d_W_law_444 : decode code 444 = .ok (.iadd, 1) := by decide +kernel
theorem d_W_law_445 : decode code 445 = .ok (.iaload, 1) := by decide +kernel
theorem d_W_law_446 : decode code 446 = .ok (.aload_n 0, 1) := by decide +kernel
theorem d_W_law_447 : decode code 447 = .ok (.iload_n 3, 1) := by decide +kernel
theorem d_W_law_448 : decode code 448 = .ok (.iconst 2, 1) := by decide +kernel
theorem d_W_law_449 : decode code 449 = .ok (.iadd, 1) := by decide +kernel
theorem d_W_law_450 : decode code 450 = .ok (.iaload, 1) := by decide +kernel
theorem d_W_law_451 : decode code 451 = .ok (.aload_n 0, 1) := by decide +kernel
theorem d_W_law_452 : decode code 452 = .ok (.iload_n 3, 1) := by decide +kernel
theorem d_W_law_453 : decode code 453 = .ok (.iconst 3, 1) := by decide +kernel
theorem d_W_law_454 : decode code 454 = .ok (.iadd, 1) := by decide +kernel
theorem d_W_law_455 : decode code 455 = .ok (.iaload, 1) := by decide +kernel
theorem d_W_law_456 : decode code 456 = .ok (.invokevirtual 50, 3) := by decide +kernel
theorem d_W_law_459 : decode code 459 = .ok (.if_icmp .eq 192, 3) := by decide +kernel
theorem d_W_law_462 : decode code 462 = .ok (.iconst 0, 1) := by decide +kernel
theorem d_W_law_463 : decode code 463 = .ok (.ireturn, 1) := by decide +kernel
theorem d_W_law_464 : decode code 464 = .ok (.aload_n 1, 1) := by decide +kernel
theorem d_W_law_465 : decode code 465 = .ok (.aload_n 0, 1) := by decide +kernel
theorem d_W_law_466 : decode code 466 = .ok (.iload_n 3, 1) := by decide +kernel
theorem d_W_law_467 : decode code 467 = .ok (.iconst 1, 1) := by decide +kernel
theorem d_W_law_468 : decode code 468 = .ok (.iadd, 1) := by decide +kernel
theorem d_W_law_469 : decode code 469 = .ok (.iaload, 1) := by decide +kernel
theorem d_W_law_470 : decode code 470 = .ok (.invokevirtual 51, 3) := by decide +kernel
theorem d_W_law_473 : decode code 473 = .ok (.aload_n 2, 1) := by decide +kernel
theorem d_W_law_474 : decode code 474 = .ok (.aload_n 0, 1) := by decide +kernel
theorem d_W_law_475 : decode code 475 = .ok (.iload_n 3, 1) := by decide +kernel
theorem d_W_law_476 : decode code 476 = .ok (.iconst 1, 1) := by decide +kernel
theorem d_W_law_477 : decode code 477 = .ok (.iadd, 1) := by decide +kernel
theorem d_W_law_478 : decode code 478 = .ok (.iaload, 1) := by decide +kernel
theorem d_W_law_479 : decode code 479 = .ok (.invokevirtual 54, 3) := by decide +kernel
theorem d_W_law_482 : decode code 482 = .ok (.if_icmp .eq 169, 3) := by decide +kernel
theorem d_W_law_485 : decode code 485 = .ok (.iconst 0, 1) := by decide +kernel
theorem d_W_law_486 : decode code 486 = .ok (.ireturn, 1) := by decide +kernel
theorem d_W_law_487 : decode code 487 = .ok (.aload_n 1, 1) := by decide +kernel
theorem d_W_law_488 : decode code 488 = .ok (.aload_n 0, 1) := by decide +kernel
theorem d_W_law_489 : decode code 489 = .ok (.iload_n 3, 1) := by decide +kernel
theorem d_W_law_490 : decode code 490 = .ok (.iconst 1, 1) := by decide +kernel
theorem d_W_law_491 : decode code 491 = .ok (.iadd, 1) := by decide +kernel
theorem d_W_law_492 : decode code 492 = .ok (.iaload, 1) := by decide +kernel
theorem d_W_law_493 : decode code 493 = .ok (.aload_n 0, 1) := by decide +kernel
theorem d_W_law_494 : decode code 494 = .ok (.iload_n 3, 1) := by decide +kernel
theorem d_W_law_495 : decode code 495 = .ok (.iconst 2, 1) := by decide +kernel
theorem d_W_law_496 : decode code 496 = .ok (.iadd, 1) := by decide +kernel
theorem d_W_law_497 : decode code 497 = .ok (.iaload, 1) := by decide +kernel
theorem d_W_law_498 : decode code 498 = .ok (.invokevirtual 55, 3) := by decide +kernel
theorem d_W_law_501 : decode code 501 = .ok (.aload_n 2, 1) := by decide +kernel
theorem d_W_law_502 : decode code 502 = .ok (.aload_n 0, 1) := by decide +kernel
theorem d_W_law_503 : decode code 503 = .ok (.iload_n 3, 1) := by decide +kernel
theorem d_W_law_504 : decode code 504 = .ok (.iconst 1, 1) := by decide +kernel
theorem d_W_law_505 : decode code 505 = .ok (.iadd, 1) := by decide +kernel
theorem d_W_law_506 : decode code 506 = .ok (.iaload, 1) := by decide +kernel
theorem d_W_law_507 : decode code 507 = .ok (.aload_n 0, 1) := by decide +kernel
theorem d_W_law_508 : decode code 508 = .ok (.iload_n 3, 1) := by decide +kernel
theorem d_W_law_509 : decode code 509 = .ok (.iconst 2, 1) := by decide +kernel
theorem d_W_law_510 : decode code 510 = .ok (.iadd, 1) := by decide +kernel
theorem d_W_law_511 : decode code 511 = .ok (.iaload, 1) := by decide +kernel
theorem d_W_law_512 : decode code 512 = .ok (.invokevirtual 59, 3) := by decide +kernel
theorem d_W_law_515 : decode code 515 = .ok (.if_icmp .eq 136, 3) := by decide +kernel
theorem d_W_law_518 : decode code 518 = .ok (.iconst 0, 1) := by decide +kernel
theorem d_W_law_519 : decode code 519 = .ok (.ireturn, 1) := by decide +kernel
theorem d_W_law_520 : decode code 520 = .ok (.aload_n 1, 1) := by decide +kernel
theorem d_W_law_521 : decode code 521 = .ok (.invokevirtual 60, 3) := by decide +kernel
theorem d_W_law_524 : decode code 524 = .ok (.aload_n 2, 1) := by decide +kernel
theorem d_W_law_525 : decode code 525 = .ok (.invokevirtual 64, 3) := by decide +kernel
theorem d_W_law_528 : decode code 528 = .ok (.if_icmp .eq 123, 3) := by decide +kernel
theorem d_W_law_531 : decode code 531 = .ok (.iconst 0, 1) := by decide +kernel
theorem d_W_law_532 : decode code 532 = .ok (.ireturn, 1) := by decide +kernel
theorem d_W_law_533 : decode code 533 = .ok (.aload_n 1, 1) := by decide +kernel
theorem d_W_law_534 : decode code 534 = .ok (.invokevirtual 65, 3) := by decide +kernel
theorem d_W_law_537 : decode code 537 = .ok (.aload_n 2, 1) := by decide +kernel
theorem d_W_law_538 : decode code 538 = .ok (.invokevirtual 68, 3) := by decide +kernel
theorem d_W_law_541 : decode code 541 = .ok (.if_icmp .eq 110, 3) := by decide +kernel
theorem d_W_law_544 : decode code 544 = .ok (.iconst 0, 1) := by decide +kernel
theorem d_W_law_545 : decode code 545 = .ok (.ireturn, 1) := by decide +kernel
theorem d_W_law_546 : decode code 546 = .ok (.aload_n 1, 1) := by decide +kernel
theorem d_W_law_547 : decode code 547 = .ok (.aload_n 0, 1) := by decide +kernel
theorem d_W_law_548 : decode code 548 = .ok (.iload_n 3, 1) := by decide +kernel
theorem d_W_law_549 : decode code 549 = .ok (.iconst 1, 1) := by decide +kernel
theorem d_W_law_550 : decode code 550 = .ok (.iadd, 1) := by decide +kernel
theorem d_W_law_551 : decode code 551 = .ok (.iaload, 1) := by decide +kernel
theorem d_W_law_552 : decode code 552 = .ok (.invokevirtual 69, 3) := by decide +kernel
theorem d_W_law_555 : decode code 555 = .ok (.aload_n 2, 1) := by decide +kernel
theorem d_W_law_556 : decode code 556 = .ok (.aload_n 0, 1) := by decide +kernel
theorem d_W_law_557 : decode code 557 = .ok (.iload_n 3, 1) := by decide +kernel
theorem d_W_law_558 : decode code 558 = .ok (.iconst 1, 1) := by decide +kernel
theorem d_W_law_559 : decode code 559 = .ok (.iadd, 1) := by decide +kernel
theorem d_W_law_560 : decode code 560 = .ok (.iaload, 1) := by decide +kernel
theorem d_W_law_561 : decode code 561 = .ok (.invokevirtual 73, 3) := by decide +kernel
theorem d_W_law_564 : decode code 564 = .ok (.if_icmp .eq 87, 3) := by decide +kernel
theorem d_W_law_567 : decode code 567 = .ok (.iconst 0, 1) := by decide +kernel
theorem d_W_law_568 : decode code 568 = .ok (.ireturn, 1) := by decide +kernel
theorem d_W_law_569 : decode code 569 = .ok (.aload_n 1, 1) := by decide +kernel
theorem d_W_law_570 : decode code 570 = .ok (.aload_n 0, 1) := by decide +kernel
theorem d_W_law_571 : decode code 571 = .ok (.iload_n 3, 1) := by decide +kernel
theorem d_W_law_572 : decode code 572 = .ok (.iconst 1, 1) := by decide +kernel
theorem d_W_law_573 : decode code 573 = .ok (.iadd, 1) := by decide +kernel
theorem d_W_law_574 : decode code 574 = .ok (.iaload, 1) := by decide +kernel
theorem d_W_law_575 : decode code 575 = .ok (.invokevirtual 74, 3) := by decide +kernel
theorem d_W_law_578 : decode code 578 = .ok (.aload_n 2, 1) := by decide +kernel
theorem d_W_law_579 : decode code 579 = .ok (.aload_n 0, 1) := by decide +kernel
theorem d_W_law_580 : decode code 580 = .ok (.iload_n 3, 1) := by decide +kernel
theorem d_W_law_581 : decode code 581 = .ok (.iconst 1, 1) := by decide +kernel
theorem d_W_law_582 : decode code 582 = .ok (.iadd, 1) := by decide +kernel
theorem d_W_law_583 : decode code 583 = .ok (.iaload, 1) := by decide +kernel
theorem d_W_law_584 : decode code 584 = .ok (.invokevirtual 77, 3) := by decide +kernel
theorem d_W_law_587 : decode code 587 = .ok (.if_icmp .eq 64, 3) := by decide +kernel
theorem d_W_law_590 : decode code 590 = .ok (.iconst 0, 1) := by decide +kernel
theorem d_W_law_591 : decode code 591 = .ok (.ireturn, 1) := by decide +kernel
theorem d_W_law_592 : decode code 592 = .ok (.aload_n 1, 1) := by decide +kernel
theorem d_W_law_593 : decode code 593 = .ok (.invokevirtual 78, 3) := by decide +kernel
theorem d_W_law_596 : decode code 596 = .ok (.aload_n 2, 1) := by decide +kernel
theorem d_W_law_597 : decode code 597 = .ok (.invokevirtual 81, 3) := by decide +kernel
theorem d_W_law_600 : decode code 600 = .ok (.if_icmp .eq 51, 3) := by decide +kernel
theorem d_W_law_603 : decode code 603 = .ok (.iconst 0, 1) := by decide +kernel
theorem d_W_law_604 : decode code 604 = .ok (.ireturn, 1) := by decide +kernel
theorem d_W_law_605 : decode code 605 = .ok (.aload_n 1, 1) := by decide +kernel
theorem d_W_law_606 : decode code 606 = .ok (.invokevirtual 82, 3) := by decide +kernel
theorem d_W_law_609 : decode code 609 = .ok (.aload_n 2, 1) := by decide +kernel
theorem d_W_law_610 : decode code 610 = .ok (.invokevirtual 85, 3) := by decide +kernel
theorem d_W_law_613 : decode code 613 = .ok (.if_icmp .eq 38, 3) := by decide +kernel
theorem d_W_law_616 : decode code 616 = .ok (.iconst 0, 1) := by decide +kernel
theorem d_W_law_617 : decode code 617 = .ok (.ireturn, 1) := by decide +kernel
theorem d_W_law_618 : decode code 618 = .ok (.aload_n 1, 1) := by decide +kernel
theorem d_W_law_619 : decode code 619 = .ok (.aload_n 0, 1) := by decide +kernel
theorem d_W_law_620 : decode code 620 = .ok (.iload_n 3, 1) := by decide +kernel
theorem d_W_law_621 : decode code 621 = .ok (.iconst 1, 1) := by decide +kernel
theorem d_W_law_622 : decode code 622 = .ok (.iadd, 1) := by decide +kernel
theorem d_W_law_623 : decode code 623 = .ok (.iaload, 1) := by decide +kernel
theorem d_W_law_624 : decode code 624 = .ok (.aload_n 0, 1) := by decide +kernel
theorem d_W_law_625 : decode code 625 = .ok (.iload_n 3, 1) := by decide +kernel
theorem d_W_law_626 : decode code 626 = .ok (.iconst 2, 1) := by decide +kernel
theorem d_W_law_627 : decode code 627 = .ok (.iadd, 1) := by decide +kernel
theorem d_W_law_628 : decode code 628 = .ok (.iaload, 1) := by decide +kernel
theorem d_W_law_629 : decode code 629 = .ok (.invokevirtual 86, 3) := by decide +kernel
theorem d_W_law_632 : decode code 632 = .ok (.aload_n 2, 1) := by decide +kernel
theorem d_W_law_633 : decode code 633 = .ok (.aload_n 0, 1) := by decide +kernel
theorem d_W_law_634 : decode code 634 = .ok (.iload_n 3, 1) := by decide +kernel
theorem d_W_law_635 : decode code 635 = .ok (.iconst 1, 1) := by decide +kernel
theorem d_W_law_636 : decode code 636 = .ok (.iadd, 1) := by decide +kernel
theorem d_W_law_637 : decode code 637 = .ok (.iaload, 1) := by decide +kernel
theorem d_W_law_638 : decode code 638 = .ok (.aload_n 0, 1) := by decide +kernel
theorem d_W_law_639 : decode code 639 = .ok (.iload_n 3, 1) := by decide +kernel
theorem d_W_law_640 : decode code 640 = .ok (.iconst 2, 1) := by decide +kernel
theorem d_W_law_641 : decode code 641 = .ok (.iadd, 1) := by decide +kernel
theorem d_W_law_642 : decode code 642 = .ok (.iaload, 1) := by decide +kernel
theorem d_W_law_643 : decode code 643 = .ok (.invokevirtual 89, 3) := by decide +kernel
theorem d_W_law_646 : decode code 646 = .ok (.if_icmp .eq 5, 3) := by decide +kernel
theorem d_W_law_649 : decode code 649 = .ok (.iconst 0, 1) := by decide +kernel
theorem d_W_law_650 : decode code 650 = .ok (.ireturn, 1) := by decide +kernel
theorem d_W_law_651 : decode code 651 = .ok (.iinc 3 6, 3) := by decide +kernel
theorem d_W_law_654 : decode code 654 = .ok (.goto (-636), 3) := by decide +kernel
theorem d_W_law_657 : decode code 657 = .ok (.iconst 1, 1) := by decide +kernel
theorem d_W_law_658 : decode code 658 = .ok (.ireturn, 1) := by decide +kernel

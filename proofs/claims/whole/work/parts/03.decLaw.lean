theorem d_Law_law_0 : decode b_Law_law 0 = .ok (.new 7, 3) := by decide +kernel
theorem d_Law_law_3 : decode b_Law_law 3 = .ok (.dup, 1) := by decide +kernel
theorem d_Law_law_4 : decode b_Law_law 4 = .ok (.invokespecial 9, 3) := by decide +kernel
theorem d_Law_law_7 : decode b_Law_law 7 = .ok (.astore_n 1, 1) := by decide +kernel
theorem d_Law_law_8 : decode b_Law_law 8 = .ok (.new 10, 3) := by decide +kernel
theorem d_Law_law_11 : decode b_Law_law 11 = .ok (.dup, 1) := by decide +kernel
theorem d_Law_law_12 : decode b_Law_law 12 = .ok (.invokespecial 12, 3) := by decide +kernel
theorem d_Law_law_15 : decode b_Law_law 15 = .ok (.astore_n 2, 1) := by decide +kernel
theorem d_Law_law_16 : decode b_Law_law 16 = .ok (.iconst 0, 1) := by decide +kernel
theorem d_Law_law_17 : decode b_Law_law 17 = .ok (.istore_n 3, 1) := by decide +kernel
theorem d_Law_law_18 : decode b_Law_law 18 = .ok (.iload_n 3, 1) := by decide +kernel
theorem d_Law_law_19 : decode b_Law_law 19 = .ok (.aload_n 0, 1) := by decide +kernel
theorem d_Law_law_20 : decode b_Law_law 20 = .ok (.arraylength, 1) := by decide +kernel
theorem d_Law_law_21 : decode b_Law_law 21 = .ok (.iconst 5, 1) := by decide +kernel
theorem d_Law_law_22 : decode b_Law_law 22 = .ok (.isub, 1) := by decide +kernel
theorem d_Law_law_23 : decode b_Law_law 23 = .ok (.if_icmp .gt 731, 3) := by decide +kernel
theorem d_Law_law_26 : decode b_Law_law 26 = .ok (.aload_n 0, 1) := by decide +kernel
theorem d_Law_law_27 : decode b_Law_law 27 = .ok (.iload_n 3, 1) := by decide +kernel
theorem d_Law_law_28 : decode b_Law_law 28 = .ok (.iaload, 1) := by decide +kernel
theorem d_Law_law_29 : decode b_Law_law 29 = .ok (.bipush 31, 2) := by decide +kernel
theorem d_Law_law_31 : decode b_Law_law 31 = .ok (.iand, 1) := by decide +kernel
theorem d_Law_law_32 : decode b_Law_law 32 = .ok (.tableswitch 716 0 19 #[96, 109, 132, 155, 188, 211, 234, 267, 300, 343, 366, 389, 462, 535, 568, 611, 644, 667, 680, 693], 96) := by decide +kernel
theorem d_Law_law_128 : decode b_Law_law 128 = .ok (.aload_n 1, 1) := by decide +kernel
theorem d_Law_law_129 : decode b_Law_law 129 = .ok (.invokevirtual 13, 3) := by decide +kernel
theorem d_Law_law_132 : decode b_Law_law 132 = .ok (.aload_n 2, 1) := by decide +kernel
theorem d_Law_law_133 : decode b_Law_law 133 = .ok (.invokevirtual 17, 3) := by decide +kernel
theorem d_Law_law_136 : decode b_Law_law 136 = .ok (.if_icmp .eq 612, 3) := by decide +kernel
theorem d_Law_law_139 : decode b_Law_law 139 = .ok (.iconst 0, 1) := by decide +kernel
theorem d_Law_law_140 : decode b_Law_law 140 = .ok (.ireturn, 1) := by decide +kernel
theorem d_Law_law_141 : decode b_Law_law 141 = .ok (.aload_n 1, 1) := by decide +kernel
theorem d_Law_law_142 : decode b_Law_law 142 = .ok (.aload_n 0, 1) := by decide +kernel
theorem d_Law_law_143 : decode b_Law_law 143 = .ok (.iload_n 3, 1) := by decide +kernel
theorem d_Law_law_144 : decode b_Law_law 144 = .ok (.iconst 1, 1) := by decide +kernel
theorem d_Law_law_145 : decode b_Law_law 145 = .ok (.iadd, 1) := by decide +kernel
theorem d_Law_law_146 : decode b_Law_law 146 = .ok (.iaload, 1) := by decide +kernel
theorem d_Law_law_147 : decode b_Law_law 147 = .ok (.invokevirtual 18, 3) := by decide +kernel
theorem d_Law_law_150 : decode b_Law_law 150 = .ok (.aload_n 2, 1) := by decide +kernel
theorem d_Law_law_151 : decode b_Law_law 151 = .ok (.aload_n 0, 1) := by decide +kernel
theorem d_Law_law_152 : decode b_Law_law 152 = .ok (.iload_n 3, 1) := by decide +kernel
theorem d_Law_law_153 : decode b_Law_law 153 = .ok (.iconst 1, 1) := by decide +kernel
theorem d_Law_law_154 : decode b_Law_law 154 = .ok (.iadd, 1) := by decide +kernel
theorem d_Law_law_155 : decode b_Law_law 155 = .ok (.iaload, 1) := by decide +kernel
theorem d_Law_law_156 : decode b_Law_law 156 = .ok (.invokevirtual 22, 3) := by decide +kernel
theorem d_Law_law_159 : decode b_Law_law 159 = .ok (.if_icmp .eq 589, 3) := by decide +kernel
theorem d_Law_law_162 : decode b_Law_law 162 = .ok (.iconst 0, 1) := by decide +kernel
theorem d_Law_law_163 : decode b_Law_law 163 = .ok (.ireturn, 1) := by decide +kernel
theorem d_Law_law_164 : decode b_Law_law 164 = .ok (.aload_n 1, 1) := by decide +kernel
theorem d_Law_law_165 : decode b_Law_law 165 = .ok (.aload_n 0, 1) := by decide +kernel
theorem d_Law_law_166 : decode b_Law_law 166 = .ok (.iload_n 3, 1) := by decide +kernel
theorem d_Law_law_167 : decode b_Law_law 167 = .ok (.iconst 1, 1) := by decide +kernel
theorem d_Law_law_168 : decode b_Law_law 168 = .ok (.iadd, 1) := by decide +kernel
theorem d_Law_law_169 : decode b_Law_law 169 = .ok (.iaload, 1) := by decide +kernel
theorem d_Law_law_170 : decode b_Law_law 170 = .ok (.invokevirtual 23, 3) := by decide +kernel
theorem d_Law_law_173 : decode b_Law_law 173 = .ok (.aload_n 2, 1) := by decide +kernel
theorem d_Law_law_174 : decode b_Law_law 174 = .ok (.aload_n 0, 1) := by decide +kernel
theorem d_Law_law_175 : decode b_Law_law 175 = .ok (.iload_n 3, 1) := by decide +kernel
theorem d_Law_law_176 : decode b_Law_law 176 = .ok (.iconst 1, 1) := by decide +kernel
theorem d_Law_law_177 : decode b_Law_law 177 = .ok (.iadd, 1) := by decide +kernel
theorem d_Law_law_178 : decode b_Law_law 178 = .ok (.iaload, 1) := by decide +kernel
theorem d_Law_law_179 : decode b_Law_law 179 = .ok (.invokevirtual 26, 3) := by decide +kernel
theorem d_Law_law_182 : decode b_Law_law 182 = .ok (.if_icmp .eq 566, 3) := by decide +kernel
theorem d_Law_law_185 : decode b_Law_law 185 = .ok (.iconst 0, 1) := by decide +kernel
theorem d_Law_law_186 : decode b_Law_law 186 = .ok (.ireturn, 1) := by decide +kernel
theorem d_Law_law_187 : decode b_Law_law 187 = .ok (.aload_n 1, 1) := by decide +kernel
theorem d_Law_law_188 : decode b_Law_law 188 = .ok (.aload_n 0, 1) := by decide +kernel
theorem d_Law_law_189 : decode b_Law_law 189 = .ok (.iload_n 3, 1) := by decide +kernel
theorem d_Law_law_190 : decode b_Law_law 190 = .ok (.iconst 1, 1) := by decide +kernel
theorem d_Law_law_191 : decode b_Law_law 191 = .ok (.iadd, 1) := by decide +kernel
theorem d_Law_law_192 : decode b_Law_law 192 = .ok (.iaload, 1) := by decide +kernel
theorem d_Law_law_193 : decode b_Law_law 193 = .ok (.aload_n 0, 1) := by decide +kernel
theorem d_Law_law_194 : decode b_Law_law 194 = .ok (.iload_n 3, 1) := by decide +kernel
theorem d_Law_law_195 : decode b_Law_law 195 = .ok (.iconst 2, 1) := by decide +kernel
theorem d_Law_law_196 : decode b_Law_law 196 = .ok (.iadd, 1) := by decide +kernel
theorem d_Law_law_197 : decode b_Law_law 197 = .ok (.iaload, 1) := by decide +kernel
theorem d_Law_law_198 : decode b_Law_law 198 = .ok (.invokevirtual 27, 3) := by decide +kernel
theorem d_Law_law_201 : decode b_Law_law 201 = .ok (.aload_n 2, 1) := by decide +kernel
theorem d_Law_law_202 : decode b_Law_law 202 = .ok (.aload_n 0, 1) := by decide +kernel
theorem d_Law_law_203 : decode b_Law_law 203 = .ok (.iload_n 3, 1) := by decide +kernel
theorem d_Law_law_204 : decode b_Law_law 204 = .ok (.iconst 1, 1) := by decide +kernel
theorem d_Law_law_205 : decode b_Law_law 205 = .ok (.iadd, 1) := by decide +kernel
theorem d_Law_law_206 : decode b_Law_law 206 = .ok (.iaload, 1) := by decide +kernel
theorem d_Law_law_207 : decode b_Law_law 207 = .ok (.aload_n 0, 1) := by decide +kernel
theorem d_Law_law_208 : decode b_Law_law 208 = .ok (.iload_n 3, 1) := by decide +kernel
theorem d_Law_law_209 : decode b_Law_law 209 = .ok (.iconst 2, 1) := by decide +kernel
theorem d_Law_law_210 : decode b_Law_law 210 = .ok (.iadd, 1) := by decide +kernel
theorem d_Law_law_211 : decode b_Law_law 211 = .ok (.iaload, 1) := by decide +kernel
theorem d_Law_law_212 : decode b_Law_law 212 = .ok (.invokevirtual 31, 3) := by decide +kernel
theorem d_Law_law_215 : decode b_Law_law 215 = .ok (.if_icmp .eq 533, 3) := by decide +kernel
theorem d_Law_law_218 : decode b_Law_law 218 = .ok (.iconst 0, 1) := by decide +kernel
theorem d_Law_law_219 : decode b_Law_law 219 = .ok (.ireturn, 1) := by decide +kernel
theorem d_Law_law_220 : decode b_Law_law 220 = .ok (.aload_n 1, 1) := by decide +kernel
theorem d_Law_law_221 : decode b_Law_law 221 = .ok (.aload_n 0, 1) := by decide +kernel
theorem d_Law_law_222 : decode b_Law_law 222 = .ok (.iload_n 3, 1) := by decide +kernel
theorem d_Law_law_223 : decode b_Law_law 223 = .ok (.iconst 1, 1) := by decide +kernel
theorem d_Law_law_224 : decode b_Law_law 224 = .ok (.iadd, 1) := by decide +kernel
theorem d_Law_law_225 : decode b_Law_law 225 = .ok (.iaload, 1) := by decide +kernel
theorem d_Law_law_226 : decode b_Law_law 226 = .ok (.invokevirtual 32, 3) := by decide +kernel
theorem d_Law_law_229 : decode b_Law_law 229 = .ok (.aload_n 2, 1) := by decide +kernel
theorem d_Law_law_230 : decode b_Law_law 230 = .ok (.aload_n 0, 1) := by decide +kernel
theorem d_Law_law_231 : decode b_Law_law 231 = .ok (.iload_n 3, 1) := by decide +kernel
theorem d_Law_law_232 : decode b_Law_law 232 = .ok (.iconst 1, 1) := by decide +kernel
theorem d_Law_law_233 : decode b_Law_law 233 = .ok (.iadd, 1) := by decide +kernel
theorem d_Law_law_234 : decode b_Law_law 234 = .ok (.iaload, 1) := by decide +kernel
theorem d_Law_law_235 : decode b_Law_law 235 = .ok (.invokevirtual 35, 3) := by decide +kernel
theorem d_Law_law_238 : decode b_Law_law 238 = .ok (.if_icmp .eq 510, 3) := by decide +kernel
theorem d_Law_law_241 : decode b_Law_law 241 = .ok (.iconst 0, 1) := by decide +kernel
theorem d_Law_law_242 : decode b_Law_law 242 = .ok (.ireturn, 1) := by decide +kernel
theorem d_Law_law_243 : decode b_Law_law 243 = .ok (.aload_n 1, 1) := by decide +kernel
theorem d_Law_law_244 : decode b_Law_law 244 = .ok (.aload_n 0, 1) := by decide +kernel
theorem d_Law_law_245 : decode b_Law_law 245 = .ok (.iload_n 3, 1) := by decide +kernel
theorem d_Law_law_246 : decode b_Law_law 246 = .ok (.iconst 1, 1) := by decide +kernel
theorem d_Law_law_247 : decode b_Law_law 247 = .ok (.iadd, 1) := by decide +kernel
theorem d_Law_law_248 : decode b_Law_law 248 = .ok (.iaload, 1) := by decide +kernel
theorem d_Law_law_249 : decode b_Law_law 249 = .ok (.invokevirtual 36, 3) := by decide +kernel
theorem d_Law_law_252 : decode b_Law_law 252 = .ok (.aload_n 2, 1) := by decide +kernel
theorem d_Law_law_253 : decode b_Law_law 253 = .ok (.aload_n 0, 1) := by decide +kernel
theorem d_Law_law_254 : decode b_Law_law 254 = .ok (.iload_n 3, 1) := by decide +kernel
theorem d_Law_law_255 : decode b_Law_law 255 = .ok (.iconst 1, 1) := by decide +kernel
theorem d_Law_law_256 : decode b_Law_law 256 = .ok (.iadd, 1) := by decide +kernel
theorem d_Law_law_257 : decode b_Law_law 257 = .ok (.iaload, 1) := by decide +kernel
theorem d_Law_law_258 : decode b_Law_law 258 = .ok (.invokevirtual 39, 3) := by decide +kernel
theorem d_Law_law_261 : decode b_Law_law 261 = .ok (.if_icmp .eq 487, 3) := by decide +kernel
theorem d_Law_law_264 : decode b_Law_law 264 = .ok (.iconst 0, 1) := by decide +kernel
theorem d_Law_law_265 : decode b_Law_law 265 = .ok (.ireturn, 1) := by decide +kernel
theorem d_Law_law_266 : decode b_Law_law 266 = .ok (.aload_n 1, 1) := by decide +kernel
theorem d_Law_law_267 : decode b_Law_law 267 = .ok (.aload_n 0, 1) := by decide +kernel
theorem d_Law_law_268 : decode b_Law_law 268 = .ok (.iload_n 3, 1) := by decide +kernel
theorem d_Law_law_269 : decode b_Law_law 269 = .ok (.iconst 1, 1) := by decide +kernel
theorem d_Law_law_270 : decode b_Law_law 270 = .ok (.iadd, 1) := by decide +kernel
theorem d_Law_law_271 : decode b_Law_law 271 = .ok (.iaload, 1) := by decide +kernel
theorem d_Law_law_272 : decode b_Law_law 272 = .ok (.aload_n 0, 1) := by decide +kernel
theorem d_Law_law_273 : decode b_Law_law 273 = .ok (.iload_n 3, 1) := by decide +kernel
theorem d_Law_law_274 : decode b_Law_law 274 = .ok (.iconst 2, 1) := by decide +kernel
theorem d_Law_law_275 : decode b_Law_law 275 = .ok (.iadd, 1) := by decide +kernel
theorem d_Law_law_276 : decode b_Law_law 276 = .ok (.iaload, 1) := by decide +kernel
theorem d_Law_law_277 : decode b_Law_law 277 = .ok (.invokevirtual 40, 3) := by decide +kernel
theorem d_Law_law_280 : decode b_Law_law 280 = .ok (.aload_n 2, 1) := by decide +kernel
theorem d_Law_law_281 : decode b_Law_law 281 = .ok (.aload_n 0, 1) := by decide +kernel
theorem d_Law_law_282 : decode b_Law_law 282 = .ok (.iload_n 3, 1) := by decide +kernel
theorem d_Law_law_283 : decode b_Law_law 283 = .ok (.iconst 1, 1) := by decide +kernel
theorem d_Law_law_284 : decode b_Law_law 284 = .ok (.iadd, 1) := by decide +kernel
theorem d_Law_law_285 : decode b_Law_law 285 = .ok (.iaload, 1) := by decide +kernel
theorem d_Law_law_286 : decode b_Law_law 286 = .ok (.aload_n 0, 1) := by decide +kernel
theorem d_Law_law_287 : decode b_Law_law 287 = .ok (.iload_n 3, 1) := by decide +kernel
theorem d_Law_law_288 : decode b_Law_law 288 = .ok (.iconst 2, 1) := by decide +kernel
theorem d_Law_law_289 : decode b_Law_law 289 = .ok (.iadd, 1) := by decide +kernel
theorem d_Law_law_290 : decode b_Law_law 290 = .ok (.iaload, 1) := by decide +kernel
theorem d_Law_law_291 : decode b_Law_law 291 = .ok (.invokevirtual 44, 3) := by decide +kernel
theorem d_Law_law_294 : decode b_Law_law 294 = .ok (.if_icmp .eq 454, 3) := by decide +kernel
theorem d_Law_law_297 : decode b_Law_law 297 = .ok (.iconst 0, 1) := by decide +kernel
theorem d_Law_law_298 : decode b_Law_law 298 = .ok (.ireturn, 1) := by decide +kernel
theorem d_Law_law_299 : decode b_Law_law 299 = .ok (.aload_n 1, 1) := by decide +kernel
theorem d_Law_law_300 : decode b_Law_law 300 = .ok (.aload_n 0, 1) := by decide +kernel
theorem d_Law_law_301 : decode b_Law_law 301 = .ok (.iload_n 3, 1) := by decide +kernel
theorem d_Law_law_302 : decode b_Law_law 302 = .ok (.iconst 1, 1) := by decide +kernel
theorem d_Law_law_303 : decode b_Law_law 303 = .ok (.iadd, 1) := by decide +kernel
theorem d_Law_law_304 : decode b_Law_law 304 = .ok (.iaload, 1) := by decide +kernel
theorem d_Law_law_305 : decode b_Law_law 305 = .ok (.aload_n 0, 1) := by decide +kernel
theorem d_Law_law_306 : decode b_Law_law 306 = .ok (.iload_n 3, 1) := by decide +kernel
theorem d_Law_law_307 : decode b_Law_law 307 = .ok (.iconst 2, 1) := by decide +kernel
theorem d_Law_law_308 : decode b_Law_law 308 = .ok (.iadd, 1) := by decide +kernel
theorem d_Law_law_309 : decode b_Law_law 309 = .ok (.iaload, 1) := by decide +kernel
theorem d_Law_law_310 : decode b_Law_law 310 = .ok (.invokevirtual 45, 3) := by decide +kernel
theorem d_Law_law_313 : decode b_Law_law 313 = .ok (.aload_n 2, 1) := by decide +kernel
theorem d_Law_law_314 : decode b_Law_law 314 = .ok (.aload_n 0, 1) := by decide +kernel
theorem d_Law_law_315 : decode b_Law_law 315 = .ok (.iload_n 3, 1) := by decide +kernel
theorem d_Law_law_316 : decode b_Law_law 316 = .ok (.iconst 1, 1) := by decide +kernel
theorem d_Law_law_317 : decode b_Law_law 317 = .ok (.iadd, 1) := by decide +kernel
theorem d_Law_law_318 : decode b_Law_law 318 = .ok (.iaload, 1) := by decide +kernel
theorem d_Law_law_319 : decode b_Law_law 319 = .ok (.aload_n 0, 1) := by decide +kernel
theorem d_Law_law_320 : decode b_Law_law 320 = .ok (.iload_n 3, 1) := by decide +kernel
theorem d_Law_law_321 : decode b_Law_law 321 = .ok (.iconst 2, 1) := by decide +kernel
theorem d_Law_law_322 : decode b_Law_law 322 = .ok (.iadd, 1) := by decide +kernel
theorem d_Law_law_323 : decode b_Law_law 323 = .ok (.iaload, 1) := by decide +kernel
theorem d_Law_law_324 : decode b_Law_law 324 = .ok (.invokevirtual 48, 3) := by decide +kernel
theorem d_Law_law_327 : decode b_Law_law 327 = .ok (.if_icmp .eq 421, 3) := by decide +kernel
theorem d_Law_law_330 : decode b_Law_law 330 = .ok (.iconst 0, 1) := by decide +kernel
theorem d_Law_law_331 : decode b_Law_law 331 = .ok (.ireturn, 1) := by decide +kernel
theorem d_Law_law_332 : decode b_Law_law 332 = .ok (.aload_n 1, 1) := by decide +kernel
theorem d_Law_law_333 : decode b_Law_law 333 = .ok (.aload_n 0, 1) := by decide +kernel
theorem d_Law_law_334 : decode b_Law_law 334 = .ok (.iload_n 3, 1) := by decide +kernel
theorem d_Law_law_335 : decode b_Law_law 335 = .ok (.iconst 1, 1) := by decide +kernel
theorem d_Law_law_336 : decode b_Law_law 336 = .ok (.iadd, 1) := by decide +kernel
theorem d_Law_law_337 : decode b_Law_law 337 = .ok (.iaload, 1) := by decide +kernel
theorem d_Law_law_338 : decode b_Law_law 338 = .ok (.aload_n 0, 1) := by decide +kernel
theorem d_Law_law_339 : decode b_Law_law 339 = .ok (.iload_n 3, 1) := by decide +kernel
theorem d_Law_law_340 : decode b_Law_law 340 = .ok (.iconst 2, 1) := by decide +kernel
theorem d_Law_law_341 : decode b_Law_law 341 = .ok (.iadd, 1) := by decide +kernel
theorem d_Law_law_342 : decode b_Law_law 342 = .ok (.iaload, 1) := by decide +kernel
theorem d_Law_law_343 : decode b_Law_law 343 = .ok (.aload_n 0, 1) := by decide +kernel
theorem d_Law_law_344 : decode b_Law_law 344 = .ok (.iload_n 3, 1) := by decide +kernel
theorem d_Law_law_345 : decode b_Law_law 345 = .ok (.iconst 3, 1) := by decide +kernel
theorem d_Law_law_346 : decode b_Law_law 346 = .ok (.iadd, 1) := by decide +kernel
theorem d_Law_law_347 : decode b_Law_law 347 = .ok (.iaload, 1) := by decide +kernel
theorem d_Law_law_348 : decode b_Law_law 348 = .ok (.invokevirtual 49, 3) := by decide +kernel
theorem d_Law_law_351 : decode b_Law_law 351 = .ok (.aload_n 2, 1) := by decide +kernel
theorem d_Law_law_352 : decode b_Law_law 352 = .ok (.aload_n 0, 1) := by decide +kernel
theorem d_Law_law_353 : decode b_Law_law 353 = .ok (.iload_n 3, 1) := by decide +kernel
theorem d_Law_law_354 : decode b_Law_law 354 = .ok (.iconst 1, 1) := by decide +kernel
theorem d_Law_law_355 : decode b_Law_law 355 = .ok (.iadd, 1) := by decide +kernel
theorem d_Law_law_356 : decode b_Law_law 356 = .ok (.iaload, 1) := by decide +kernel
theorem d_Law_law_357 : decode b_Law_law 357 = .ok (.aload_n 0, 1) := by decide +kernel
theorem d_Law_law_358 : decode b_Law_law 358 = .ok (.iload_n 3, 1) := by decide +kernel
theorem d_Law_law_359 : decode b_Law_law 359 = .ok (.iconst 2, 1) := by decide +kernel
theorem d_Law_law_360 : decode b_Law_law 360 = .ok (.iadd, 1) := by decide +kernel
theorem d_Law_law_361 : decode b_Law_law 361 = .ok (.iaload, 1) := by decide +kernel
theorem d_Law_law_362 : decode b_Law_law 362 = .ok (.aload_n 0, 1) := by decide +kernel
theorem d_Law_law_363 : decode b_Law_law 363 = .ok (.iload_n 3, 1) := by decide +kernel
theorem d_Law_law_364 : decode b_Law_law 364 = .ok (.iconst 3, 1) := by decide +kernel
theorem d_Law_law_365 : decode b_Law_law 365 = .ok (.iadd, 1) := by decide +kernel
theorem d_Law_law_366 : decode b_Law_law 366 = .ok (.iaload, 1) := by decide +kernel
theorem d_Law_law_367 : decode b_Law_law 367 = .ok (.invokevirtual 53, 3) := by decide +kernel
theorem d_Law_law_370 : decode b_Law_law 370 = .ok (.if_icmp .eq 378, 3) := by decide +kernel
theorem d_Law_law_373 : decode b_Law_law 373 = .ok (.iconst 0, 1) := by decide +kernel
theorem d_Law_law_374 : decode b_Law_law 374 = .ok (.ireturn, 1) := by decide +kernel
theorem d_Law_law_375 : decode b_Law_law 375 = .ok (.aload_n 1, 1) := by decide +kernel
theorem d_Law_law_376 : decode b_Law_law 376 = .ok (.aload_n 0, 1) := by decide +kernel
theorem d_Law_law_377 : decode b_Law_law 377 = .ok (.iload_n 3, 1) := by decide +kernel
theorem d_Law_law_378 : decode b_Law_law 378 = .ok (.iconst 1, 1) := by decide +kernel
theorem d_Law_law_379 : decode b_Law_law 379 = .ok (.iadd, 1) := by decide +kernel
theorem d_Law_law_380 : decode b_Law_law 380 = .ok (.iaload, 1) := by decide +kernel
theorem d_Law_law_381 : decode b_Law_law 381 = .ok (.invokevirtual 54, 3) := by decide +kernel
theorem d_Law_law_384 : decode b_Law_law 384 = .ok (.aload_n 2, 1) := by decide +kernel
theorem d_Law_law_385 : decode b_Law_law 385 = .ok (.aload_n 0, 1) := by decide +kernel
theorem d_Law_law_386 : decode b_Law_law 386 = .ok (.iload_n 3, 1) := by decide +kernel
theorem d_Law_law_387 : decode b_Law_law 387 = .ok (.iconst 1, 1) := by decide +kernel
theorem d_Law_law_388 : decode b_Law_law 388 = .ok (.iadd, 1) := by decide +kernel
theorem d_Law_law_389 : decode b_Law_law 389 = .ok (.iaload, 1) := by decide +kernel
theorem d_Law_law_390 : decode b_Law_law 390 = .ok (.invokevirtual 58, 3) := by decide +kernel
theorem d_Law_law_393 : decode b_Law_law 393 = .ok (.if_icmp .eq 355, 3) := by decide +kernel
theorem d_Law_law_396 : decode b_Law_law 396 = .ok (.iconst 0, 1) := by decide +kernel
theorem d_Law_law_397 : decode b_Law_law 397 = .ok (.ireturn, 1) := by decide +kernel
theorem d_Law_law_398 : decode b_Law_law 398 = .ok (.aload_n 1, 1) := by decide +kernel
theorem d_Law_law_399 : decode b_Law_law 399 = .ok (.aload_n 0, 1) := by decide +kernel
theorem d_Law_law_400 : decode b_Law_law 400 = .ok (.iload_n 3, 1) := by decide +kernel
theorem d_Law_law_401 : decode b_Law_law 401 = .ok (.iconst 1, 1) := by decide +kernel
theorem d_Law_law_402 : decode b_Law_law 402 = .ok (.iadd, 1) := by decide +kernel
theorem d_Law_law_403 : decode b_Law_law 403 = .ok (.iaload, 1) := by decide +kernel
theorem d_Law_law_404 : decode b_Law_law 404 = .ok (.invokevirtual 59, 3) := by decide +kernel
theorem d_Law_law_407 : decode b_Law_law 407 = .ok (.aload_n 2, 1) := by decide +kernel
theorem d_Law_law_408 : decode b_Law_law 408 = .ok (.aload_n 0, 1) := by decide +kernel
theorem d_Law_law_409 : decode b_Law_law 409 = .ok (.iload_n 3, 1) := by decide +kernel
theorem d_Law_law_410 : decode b_Law_law 410 = .ok (.iconst 1, 1) := by decide +kernel
theorem d_Law_law_411 : decode b_Law_law 411 = .ok (.iadd, 1) := by decide +kernel
theorem d_Law_law_412 : decode b_Law_law 412 = .ok (.iaload, 1) := by decide +kernel
theorem d_Law_law_413 : decode b_Law_law 413 = .ok (.invokevirtual 62, 3) := by decide +kernel
theorem d_Law_law_416 : decode b_Law_law 416 = .ok (.if_icmp .eq 332, 3) := by decide +kernel
theorem d_Law_law_419 : decode b_Law_law 419 = .ok (.iconst 0, 1) := by decide +kernel
theorem d_Law_law_420 : decode b_Law_law 420 = .ok (.ireturn, 1) := by decide +kernel
theorem d_Law_law_421 : decode b_Law_law 421 = .ok (.aload_n 1, 1) := by decide +kernel
theorem d_Law_law_422 : decode b_Law_law 422 = .ok (.aload_n 0, 1) := by decide +kernel
theorem d_Law_law_423 : decode b_Law_law 423 = .ok (.iload_n 3, 1) := by decide +kernel
theorem d_Law_law_424 : decode b_Law_law 424 = .ok (.iconst 1, 1) := by decide +kernel
theorem d_Law_law_425 : decode b_Law_law 425 = .ok (.iadd, 1) := by decide +kernel
theorem d_Law_law_426 : decode b_Law_law 426 = .ok (.iaload, 1) := by decide +kernel
theorem d_Law_law_427 : decode b_Law_law 427 = .ok (.aload_n 0, 1) := by decide +kernel
theorem d_Law_law_428 : decode b_Law_law 428 = .ok (.iload_n 3, 1) := by decide +kernel
theorem d_Law_law_429 : decode b_Law_law 429 = .ok (.iconst 2, 1) := by decide +kernel
theorem d_Law_law_430 : decode b_Law_law 430 = .ok (.iadd, 1) := by decide +kernel
theorem d_Law_law_431 : decode b_Law_law 431 = .ok (.iaload, 1) := by decide +kernel
theorem d_Law_law_432 : decode b_Law_law 432 = .ok (.i2l, 1) := by decide +kernel
theorem d_Law_law_433 : decode b_Law_law 433 = .ok (.bipush 32, 2) := by decide +kernel
theorem d_Law_law_435 : decode b_Law_law 435 = .ok (.lshl, 1) := by decide +kernel
theorem d_Law_law_436 : decode b_Law_law 436 = .ok (.aload_n 0, 1) := by decide +kernel
theorem d_Law_law_437 : decode b_Law_law 437 = .ok (.iload_n 3, 1) := by decide +kernel
theorem d_Law_law_438 : decode b_Law_law 438 = .ok (.iconst 3, 1) := by decide +kernel
theorem d_Law_law_439 : decode b_Law_law 439 = .ok (.iadd, 1) := by decide +kernel
theorem d_Law_law_440 : decode b_Law_law 440 = .ok (.iaload, 1) := by decide +kernel
theorem d_Law_law_441 : decode b_Law_law 441 = .ok (.i2l, 1) := by decide +kernel
theorem d_Law_law_442 : decode b_Law_law 442 = .ok (.ldc2_w 63, 3) := by decide +kernel
theorem d_Law_law_445 : decode b_Law_law 445 = .ok (.land, 1) := by decide +kernel
theorem d_Law_law_446 : decode b_Law_law 446 = .ok (.lor, 1) := by decide +kernel
theorem d_Law_law_447 : decode b_Law_law 447 = .ok (.aload_n 0, 1) := by decide +kernel
theorem d_Law_law_448 : decode b_Law_law 448 = .ok (.iload_n 3, 1) := by decide +kernel
theorem d_Law_law_449 : decode b_Law_law 449 = .ok (.iconst 4, 1) := by decide +kernel
theorem d_Law_law_450 : decode b_Law_law 450 = .ok (.iadd, 1) := by decide +kernel
theorem d_Law_law_451 : decode b_Law_law 451 = .ok (.iaload, 1) := by decide +kernel
theorem d_Law_law_452 : decode b_Law_law 452 = .ok (.invokevirtual 65, 3) := by decide +kernel
theorem d_Law_law_455 : decode b_Law_law 455 = .ok (.aload_n 2, 1) := by decide +kernel
theorem d_Law_law_456 : decode b_Law_law 456 = .ok (.aload_n 0, 1) := by decide +kernel
theorem d_Law_law_457 : decode b_Law_law 457 = .ok (.iload_n 3, 1) := by decide +kernel
theorem d_Law_law_458 : decode b_Law_law 458 = .ok (.iconst 1, 1) := by decide +kernel
theorem d_Law_law_459 : decode b_Law_law 459 = .ok (.iadd, 1) := by decide +kernel
theorem d_Law_law_460 : decode b_Law_law 460 = .ok (.iaload, 1) := by decide +kernel
theorem d_Law_law_461 : decode b_Law_law 461 = .ok (.aload_n 0, 1) := by decide +kernel
theorem d_Law_law_462 : decode b_Law_law 462 = .ok (.iload_n 3, 1) := by decide +kernel
theorem d_Law_law_463 : decode b_Law_law 463 = .ok (.iconst 2, 1) := by decide +kernel
theorem d_Law_law_464 : decode b_Law_law 464 = .ok (.iadd, 1) := by decide +kernel
theorem d_Law_law_465 : decode b_Law_law 465 = .ok (.iaload, 1) := by decide +kernel
theorem d_Law_law_466 : decode b_Law_law 466 = .ok (.i2l, 1) := by decide +kernel
theorem d_Law_law_467 : decode b_Law_law 467 = .ok (.bipush 32, 2) := by decide +kernel
theorem d_Law_law_469 : decode b_Law_law 469 = .ok (.lshl, 1) := by decide +kernel
theorem d_Law_law_470 : decode b_Law_law 470 = .ok (.aload_n 0, 1) := by decide +kernel
theorem d_Law_law_471 : decode b_Law_law 471 = .ok (.iload_n 3, 1) := by decide +kernel
theorem d_Law_law_472 : decode b_Law_law 472 = .ok (.iconst 3, 1) := by decide +kernel
theorem d_Law_law_473 : decode b_Law_law 473 = .ok (.iadd, 1) := by decide +kernel
theorem d_Law_law_474 : decode b_Law_law 474 = .ok (.iaload, 1) := by decide +kernel
theorem d_Law_law_475 : decode b_Law_law 475 = .ok (.i2l, 1) := by decide +kernel
theorem d_Law_law_476 : decode b_Law_law 476 = .ok (.ldc2_w 63, 3) := by decide +kernel
theorem d_Law_law_479 : decode b_Law_law 479 = .ok (.land, 1) := by decide +kernel
theorem d_Law_law_480 : decode b_Law_law 480 = .ok (.lor, 1) := by decide +kernel
theorem d_Law_law_481 : decode b_Law_law 481 = .ok (.aload_n 0, 1) := by decide +kernel
theorem d_Law_law_482 : decode b_Law_law 482 = .ok (.iload_n 3, 1) := by decide +kernel
theorem d_Law_law_483 : decode b_Law_law 483 = .ok (.iconst 4, 1) := by decide +kernel
theorem d_Law_law_484 : decode b_Law_law 484 = .ok (.iadd, 1) := by decide +kernel
theorem d_Law_law_485 : decode b_Law_law 485 = .ok (.iaload, 1) := by decide +kernel
theorem d_Law_law_486 : decode b_Law_law 486 = .ok (.invokevirtual 69, 3) := by decide +kernel
theorem d_Law_law_489 : decode b_Law_law 489 = .ok (.if_icmp .eq 259, 3) := by decide +kernel
theorem d_Law_law_492 : decode b_Law_law 492 = .ok (.iconst 0, 1) := by decide +kernel
theorem d_Law_law_493 : decode b_Law_law 493 = .ok (.ireturn, 1) := by decide +kernel
theorem d_Law_law_494 : decode b_Law_law 494 = .ok (.aload_n 1, 1) := by decide +kernel
theorem d_Law_law_495 : decode b_Law_law 495 = .ok (.aload_n 0, 1) := by decide +kernel
theorem d_Law_law_496 : decode b_Law_law 496 = .ok (.iload_n 3, 1) := by decide +kernel
theorem d_Law_law_497 : decode b_Law_law 497 = .ok (.iconst 1, 1) := by decide +kernel
theorem d_Law_law_498 : decode b_Law_law 498 = .ok (.iadd, 1) := by decide +kernel
theorem d_Law_law_499 : decode b_Law_law 499 = .ok (.iaload, 1) := by decide +kernel
theorem d_Law_law_500 : decode b_Law_law 500 = .ok (.aload_n 0, 1) := by decide +kernel
theorem d_Law_law_501 : decode b_Law_law 501 = .ok (.iload_n 3, 1) := by decide +kernel
theorem d_Law_law_502 : decode b_Law_law 502 = .ok (.iconst 2, 1) := by decide +kernel
theorem d_Law_law_503 : decode b_Law_law 503 = .ok (.iadd, 1) := by decide +kernel
theorem d_Law_law_504 : decode b_Law_law 504 = .ok (.iaload, 1) := by decide +kernel
theorem d_Law_law_505 : decode b_Law_law 505 = .ok (.i2l, 1) := by decide +kernel
theorem d_Law_law_506 : decode b_Law_law 506 = .ok (.bipush 32, 2) := by decide +kernel
theorem d_Law_law_508 : decode b_Law_law 508 = .ok (.lshl, 1) := by decide +kernel
theorem d_Law_law_509 : decode b_Law_law 509 = .ok (.aload_n 0, 1) := by decide +kernel
theorem d_Law_law_510 : decode b_Law_law 510 = .ok (.iload_n 3, 1) := by decide +kernel
theorem d_Law_law_511 : decode b_Law_law 511 = .ok (.iconst 3, 1) := by decide +kernel
theorem d_Law_law_512 : decode b_Law_law 512 = .ok (.iadd, 1) := by decide +kernel
theorem d_Law_law_513 : decode b_Law_law 513 = .ok (.iaload, 1) := by decide +kernel
theorem d_Law_law_514 : decode b_Law_law 514 = .ok (.i2l, 1) := by decide +kernel
theorem d_Law_law_515 : decode b_Law_law 515 = .ok (.ldc2_w 63, 3) := by decide +kernel
theorem d_Law_law_518 : decode b_Law_law 518 = .ok (.land, 1) := by decide +kernel
theorem d_Law_law_519 : decode b_Law_law 519 = .ok (.lor, 1) := by decide +kernel
theorem d_Law_law_520 : decode b_Law_law 520 = .ok (.aload_n 0, 1) := by decide +kernel
theorem d_Law_law_521 : decode b_Law_law 521 = .ok (.iload_n 3, 1) := by decide +kernel
theorem d_Law_law_522 : decode b_Law_law 522 = .ok (.iconst 4, 1) := by decide +kernel
theorem d_Law_law_523 : decode b_Law_law 523 = .ok (.iadd, 1) := by decide +kernel
theorem d_Law_law_524 : decode b_Law_law 524 = .ok (.iaload, 1) := by decide +kernel
theorem d_Law_law_525 : decode b_Law_law 525 = .ok (.invokevirtual 70, 3) := by decide +kernel
theorem d_Law_law_528 : decode b_Law_law 528 = .ok (.aload_n 2, 1) := by decide +kernel
theorem d_Law_law_529 : decode b_Law_law 529 = .ok (.aload_n 0, 1) := by decide +kernel
theorem d_Law_law_530 : decode b_Law_law 530 = .ok (.iload_n 3, 1) := by decide +kernel
theorem d_Law_law_531 : decode b_Law_law 531 = .ok (.iconst 1, 1) := by decide +kernel
theorem d_Law_law_532 : decode b_Law_law 532 = .ok (.iadd, 1) := by decide +kernel
theorem d_Law_law_533 : decode b_Law_law 533 = .ok (.iaload, 1) := by decide +kernel
theorem d_Law_law_534 : decode b_Law_law 534 = .ok (.aload_n 0, 1) := by decide +kernel
theorem d_Law_law_535 : decode b_Law_law 535 = .ok (.iload_n 3, 1) := by decide +kernel
theorem d_Law_law_536 : decode b_Law_law 536 = .ok (.iconst 2, 1) := by decide +kernel
theorem d_Law_law_537 : decode b_Law_law 537 = .ok (.iadd, 1) := by decide +kernel
theorem d_Law_law_538 : decode b_Law_law 538 = .ok (.iaload, 1) := by decide +kernel
theorem d_Law_law_539 : decode b_Law_law 539 = .ok (.i2l, 1) := by decide +kernel
theorem d_Law_law_540 : decode b_Law_law 540 = .ok (.bipush 32, 2) := by decide +kernel
theorem d_Law_law_542 : decode b_Law_law 542 = .ok (.lshl, 1) := by decide +kernel
theorem d_Law_law_543 : decode b_Law_law 543 = .ok (.aload_n 0, 1) := by decide +kernel
theorem d_Law_law_544 : decode b_Law_law 544 = .ok (.iload_n 3, 1) := by decide +kernel
theorem d_Law_law_545 : decode b_Law_law 545 = .ok (.iconst 3, 1) := by decide +kernel
theorem d_Law_law_546 : decode b_Law_law 546 = .ok (.iadd, 1) := by decide +kernel
theorem d_Law_law_547 : decode b_Law_law 547 = .ok (.iaload, 1) := by decide +kernel
theorem d_Law_law_548 : decode b_Law_law 548 = .ok (.i2l, 1) := by decide +kernel
theorem d_Law_law_549 : decode b_Law_law 549 = .ok (.ldc2_w 63, 3) := by decide +kernel
theorem d_Law_law_552 : decode b_Law_law 552 = .ok (.land, 1) := by decide +kernel
theorem d_Law_law_553 : decode b_Law_law 553 = .ok (.lor, 1) := by decide +kernel
theorem d_Law_law_554 : decode b_Law_law 554 = .ok (.aload_n 0, 1) := by decide +kernel
theorem d_Law_law_555 : decode b_Law_law 555 = .ok (.iload_n 3, 1) := by decide +kernel
theorem d_Law_law_556 : decode b_Law_law 556 = .ok (.iconst 4, 1) := by decide +kernel
theorem d_Law_law_557 : decode b_Law_law 557 = .ok (.iadd, 1) := by decide +kernel
theorem d_Law_law_558 : decode b_Law_law 558 = .ok (.iaload, 1) := by decide +kernel
theorem d_Law_law_559 : decode b_Law_law 559 = .ok (.invokevirtual 73, 3) := by decide +kernel
theorem d_Law_law_562 : decode b_Law_law 562 = .ok (.if_icmp .eq 186, 3) := by decide +kernel
theorem d_Law_law_565 : decode b_Law_law 565 = .ok (.iconst 0, 1) := by decide +kernel
theorem d_Law_law_566 : decode b_Law_law 566 = .ok (.ireturn, 1) := by decide +kernel
theorem d_Law_law_567 : decode b_Law_law 567 = .ok (.aload_n 1, 1) := by decide +kernel
theorem d_Law_law_568 : decode b_Law_law 568 = .ok (.aload_n 0, 1) := by decide +kernel
theorem d_Law_law_569 : decode b_Law_law 569 = .ok (.iload_n 3, 1) := by decide +kernel
theorem d_Law_law_570 : decode b_Law_law 570 = .ok (.iconst 1, 1) := by decide +kernel
theorem d_Law_law_571 : decode b_Law_law 571 = .ok (.iadd, 1) := by decide +kernel
theorem d_Law_law_572 : decode b_Law_law 572 = .ok (.iaload, 1) := by decide +kernel
theorem d_Law_law_573 : decode b_Law_law 573 = .ok (.aload_n 0, 1) := by decide +kernel
theorem d_Law_law_574 : decode b_Law_law 574 = .ok (.iload_n 3, 1) := by decide +kernel
theorem d_Law_law_575 : decode b_Law_law 575 = .ok (.iconst 2, 1) := by decide +kernel
theorem d_Law_law_576 : decode b_Law_law 576 = .ok (.iadd, 1) := by decide +kernel
theorem d_Law_law_577 : decode b_Law_law 577 = .ok (.iaload, 1) := by decide +kernel
theorem d_Law_law_578 : decode b_Law_law 578 = .ok (.invokevirtual 74, 3) := by decide +kernel
theorem d_Law_law_581 : decode b_Law_law 581 = .ok (.aload_n 2, 1) := by decide +kernel
theorem d_Law_law_582 : decode b_Law_law 582 = .ok (.aload_n 0, 1) := by decide +kernel
theorem d_Law_law_583 : decode b_Law_law 583 = .ok (.iload_n 3, 1) := by decide +kernel
theorem d_Law_law_584 : decode b_Law_law 584 = .ok (.iconst 1, 1) := by decide +kernel
theorem d_Law_law_585 : decode b_Law_law 585 = .ok (.iadd, 1) := by decide +kernel
theorem d_Law_law_586 : decode b_Law_law 586 = .ok (.iaload, 1) := by decide +kernel
theorem d_Law_law_587 : decode b_Law_law 587 = .ok (.aload_n 0, 1) := by decide +kernel
theorem d_Law_law_588 : decode b_Law_law 588 = .ok (.iload_n 3, 1) := by decide +kernel
theorem d_Law_law_589 : decode b_Law_law 589 = .ok (.iconst 2, 1) := by decide +kernel
theorem d_Law_law_590 : decode b_Law_law 590 = .ok (.iadd, 1) := by decide +kernel
theorem d_Law_law_591 : decode b_Law_law 591 = .ok (.iaload, 1) := by decide +kernel
theorem d_Law_law_592 : decode b_Law_law 592 = .ok (.invokevirtual 77, 3) := by decide +kernel
theorem d_Law_law_595 : decode b_Law_law 595 = .ok (.if_icmp .eq 153, 3) := by decide +kernel
theorem d_Law_law_598 : decode b_Law_law 598 = .ok (.iconst 0, 1) := by decide +kernel
theorem d_Law_law_599 : decode b_Law_law 599 = .ok (.ireturn, 1) := by decide +kernel
theorem d_Law_law_600 : decode b_Law_law 600 = .ok (.aload_n 1, 1) := by decide +kernel
theorem d_Law_law_601 : decode b_Law_law 601 = .ok (.aload_n 0, 1) := by decide +kernel
theorem d_Law_law_602 : decode b_Law_law 602 = .ok (.iload_n 3, 1) := by decide +kernel
theorem d_Law_law_603 : decode b_Law_law 603 = .ok (.iconst 1, 1) := by decide +kernel
theorem d_Law_law_604 : decode b_Law_law 604 = .ok (.iadd, 1) := by decide +kernel
theorem d_Law_law_605 : decode b_Law_law 605 = .ok (.iaload, 1) := by decide +kernel
theorem d_Law_law_606 : decode b_Law_law 606 = .ok (.aload_n 0, 1) := by decide +kernel
theorem d_Law_law_607 : decode b_Law_law 607 = .ok (.iload_n 3, 1) := by decide +kernel
theorem d_Law_law_608 : decode b_Law_law 608 = .ok (.iconst 2, 1) := by decide +kernel
theorem d_Law_law_609 : decode b_Law_law 609 = .ok (.iadd, 1) := by decide +kernel
theorem d_Law_law_610 : decode b_Law_law 610 = .ok (.iaload, 1) := by decide +kernel
theorem d_Law_law_611 : decode b_Law_law 611 = .ok (.aload_n 0, 1) := by decide +kernel
theorem d_Law_law_612 : decode b_Law_law 612 = .ok (.iload_n 3, 1) := by decide +kernel
theorem d_Law_law_613 : decode b_Law_law 613 = .ok (.iconst 3, 1) := by decide +kernel
theorem d_Law_law_614 : decode b_Law_law 614 = .ok (.iadd, 1) := by decide +kernel
theorem d_Law_law_615 : decode b_Law_law 615 = .ok (.iaload, 1) := by decide +kernel
theorem d_Law_law_616 : decode b_Law_law 616 = .ok (.invokevirtual 78, 3) := by decide +kernel
theorem d_Law_law_619 : decode b_Law_law 619 = .ok (.aload_n 2, 1) := by decide +kernel
theorem d_Law_law_620 : decode b_Law_law 620 = .ok (.aload_n 0, 1) := by decide +kernel
theorem d_Law_law_621 : decode b_Law_law 621 = .ok (.iload_n 3, 1) := by decide +kernel
theorem d_Law_law_622 : decode b_Law_law 622 = .ok (.iconst 1, 1) := by decide +kernel
theorem d_Law_law_623 : decode b_Law_law 623 = .ok (.iadd, 1) := by decide +kernel
theorem d_Law_law_624 : decode b_Law_law 624 = .ok (.iaload, 1) := by decide +kernel
theorem d_Law_law_625 : decode b_Law_law 625 = .ok (.aload_n 0, 1) := by decide +kernel
theorem d_Law_law_626 : decode b_Law_law 626 = .ok (.iload_n 3, 1) := by decide +kernel
theorem d_Law_law_627 : decode b_Law_law 627 = .ok (.iconst 2, 1) := by decide +kernel
theorem d_Law_law_628 : decode b_Law_law 628 = .ok (.iadd, 1) := by decide +kernel
theorem d_Law_law_629 : decode b_Law_law 629 = .ok (.iaload, 1) := by decide +kernel
theorem d_Law_law_630 : decode b_Law_law 630 = .ok (.aload_n 0, 1) := by decide +kernel
theorem d_Law_law_631 : decode b_Law_law 631 = .ok (.iload_n 3, 1) := by decide +kernel
theorem d_Law_law_632 : decode b_Law_law 632 = .ok (.iconst 3, 1) := by decide +kernel
theorem d_Law_law_633 : decode b_Law_law 633 = .ok (.iadd, 1) := by decide +kernel
theorem d_Law_law_634 : decode b_Law_law 634 = .ok (.iaload, 1) := by decide +kernel
theorem d_Law_law_635 : decode b_Law_law 635 = .ok (.invokevirtual 81, 3) := by decide +kernel
theorem d_Law_law_638 : decode b_Law_law 638 = .ok (.if_icmp .eq 110, 3) := by decide +kernel
theorem d_Law_law_641 : decode b_Law_law 641 = .ok (.iconst 0, 1) := by decide +kernel
theorem d_Law_law_642 : decode b_Law_law 642 = .ok (.ireturn, 1) := by decide +kernel
theorem d_Law_law_643 : decode b_Law_law 643 = .ok (.aload_n 1, 1) := by decide +kernel
theorem d_Law_law_644 : decode b_Law_law 644 = .ok (.aload_n 0, 1) := by decide +kernel
theorem d_Law_law_645 : decode b_Law_law 645 = .ok (.iload_n 3, 1) := by decide +kernel
theorem d_Law_law_646 : decode b_Law_law 646 = .ok (.iconst 1, 1) := by decide +kernel
theorem d_Law_law_647 : decode b_Law_law 647 = .ok (.iadd, 1) := by decide +kernel
theorem d_Law_law_648 : decode b_Law_law 648 = .ok (.iaload, 1) := by decide +kernel
theorem d_Law_law_649 : decode b_Law_law 649 = .ok (.aload_n 0, 1) := by decide +kernel
theorem d_Law_law_650 : decode b_Law_law 650 = .ok (.iload_n 3, 1) := by decide +kernel
theorem d_Law_law_651 : decode b_Law_law 651 = .ok (.iconst 2, 1) := by decide +kernel
theorem d_Law_law_652 : decode b_Law_law 652 = .ok (.iadd, 1) := by decide +kernel
theorem d_Law_law_653 : decode b_Law_law 653 = .ok (.iaload, 1) := by decide +kernel
theorem d_Law_law_654 : decode b_Law_law 654 = .ok (.invokevirtual 82, 3) := by decide +kernel
theorem d_Law_law_657 : decode b_Law_law 657 = .ok (.aload_n 2, 1) := by decide +kernel
theorem d_Law_law_658 : decode b_Law_law 658 = .ok (.aload_n 0, 1) := by decide +kernel
theorem d_Law_law_659 : decode b_Law_law 659 = .ok (.iload_n 3, 1) := by decide +kernel
theorem d_Law_law_660 : decode b_Law_law 660 = .ok (.iconst 1, 1) := by decide +kernel
theorem d_Law_law_661 : decode b_Law_law 661 = .ok (.iadd, 1) := by decide +kernel
theorem d_Law_law_662 : decode b_Law_law 662 = .ok (.iaload, 1) := by decide +kernel
theorem d_Law_law_663 : decode b_Law_law 663 = .ok (.aload_n 0, 1) := by decide +kernel
theorem d_Law_law_664 : decode b_Law_law 664 = .ok (.iload_n 3, 1) := by decide +kernel
theorem d_Law_law_665 : decode b_Law_law 665 = .ok (.iconst 2, 1) := by decide +kernel
theorem d_Law_law_666 : decode b_Law_law 666 = .ok (.iadd, 1) := by decide +kernel
theorem d_Law_law_667 : decode b_Law_law 667 = .ok (.iaload, 1) := by decide +kernel
theorem d_Law_law_668 : decode b_Law_law 668 = .ok (.invokevirtual 85, 3) := by decide +kernel
theorem d_Law_law_671 : decode b_Law_law 671 = .ok (.if_icmp .eq 77, 3) := by decide +kernel
theorem d_Law_law_674 : decode b_Law_law 674 = .ok (.iconst 0, 1) := by decide +kernel
theorem d_Law_law_675 : decode b_Law_law 675 = .ok (.ireturn, 1) := by decide +kernel
theorem d_Law_law_676 : decode b_Law_law 676 = .ok (.aload_n 1, 1) := by decide +kernel
theorem d_Law_law_677 : decode b_Law_law 677 = .ok (.aload_n 0, 1) := by decide +kernel
theorem d_Law_law_678 : decode b_Law_law 678 = .ok (.iload_n 3, 1) := by decide +kernel
theorem d_Law_law_679 : decode b_Law_law 679 = .ok (.iconst 1, 1) := by decide +kernel
theorem d_Law_law_680 : decode b_Law_law 680 = .ok (.iadd, 1) := by decide +kernel
theorem d_Law_law_681 : decode b_Law_law 681 = .ok (.iaload, 1) := by decide +kernel
theorem d_Law_law_682 : decode b_Law_law 682 = .ok (.invokevirtual 86, 3) := by decide +kernel
theorem d_Law_law_685 : decode b_Law_law 685 = .ok (.aload_n 2, 1) := by decide +kernel
theorem d_Law_law_686 : decode b_Law_law 686 = .ok (.aload_n 0, 1) := by decide +kernel
theorem d_Law_law_687 : decode b_Law_law 687 = .ok (.iload_n 3, 1) := by decide +kernel
theorem d_Law_law_688 : decode b_Law_law 688 = .ok (.iconst 1, 1) := by decide +kernel
theorem d_Law_law_689 : decode b_Law_law 689 = .ok (.iadd, 1) := by decide +kernel
theorem d_Law_law_690 : decode b_Law_law 690 = .ok (.iaload, 1) := by decide +kernel
theorem d_Law_law_691 : decode b_Law_law 691 = .ok (.invokevirtual 89, 3) := by decide +kernel
theorem d_Law_law_694 : decode b_Law_law 694 = .ok (.if_icmp .eq 54, 3) := by decide +kernel
theorem d_Law_law_697 : decode b_Law_law 697 = .ok (.iconst 0, 1) := by decide +kernel
theorem d_Law_law_698 : decode b_Law_law 698 = .ok (.ireturn, 1) := by decide +kernel
theorem d_Law_law_699 : decode b_Law_law 699 = .ok (.aload_n 1, 1) := by decide +kernel
theorem d_Law_law_700 : decode b_Law_law 700 = .ok (.invokevirtual 90, 3) := by decide +kernel
theorem d_Law_law_703 : decode b_Law_law 703 = .ok (.aload_n 2, 1) := by decide +kernel
theorem d_Law_law_704 : decode b_Law_law 704 = .ok (.invokevirtual 93, 3) := by decide +kernel
theorem d_Law_law_707 : decode b_Law_law 707 = .ok (.if_icmp .eq 41, 3) := by decide +kernel
theorem d_Law_law_710 : decode b_Law_law 710 = .ok (.iconst 0, 1) := by decide +kernel
theorem d_Law_law_711 : decode b_Law_law 711 = .ok (.ireturn, 1) := by decide +kernel
theorem d_Law_law_712 : decode b_Law_law 712 = .ok (.aload_n 1, 1) := by decide +kernel
theorem d_Law_law_713 : decode b_Law_law 713 = .ok (.invokevirtual 94, 3) := by decide +kernel
theorem d_Law_law_716 : decode b_Law_law 716 = .ok (.aload_n 2, 1) := by decide +kernel
theorem d_Law_law_717 : decode b_Law_law 717 = .ok (.invokevirtual 97, 3) := by decide +kernel
theorem d_Law_law_720 : decode b_Law_law 720 = .ok (.if_icmp .eq 28, 3) := by decide +kernel
theorem d_Law_law_723 : decode b_Law_law 723 = .ok (.iconst 0, 1) := by decide +kernel
theorem d_Law_law_724 : decode b_Law_law 724 = .ok (.ireturn, 1) := by decide +kernel
theorem d_Law_law_725 : decode b_Law_law 725 = .ok (.aload_n 1, 1) := by decide +kernel
theorem d_Law_law_726 : decode b_Law_law 726 = .ok (.aload_n 0, 1) := by decide +kernel
theorem d_Law_law_727 : decode b_Law_law 727 = .ok (.iload_n 3, 1) := by decide +kernel
theorem d_Law_law_728 : decode b_Law_law 728 = .ok (.iconst 1, 1) := by decide +kernel
theorem d_Law_law_729 : decode b_Law_law 729 = .ok (.iadd, 1) := by decide +kernel
theorem d_Law_law_730 : decode b_Law_law 730 = .ok (.iaload, 1) := by decide +kernel
theorem d_Law_law_731 : decode b_Law_law 731 = .ok (.invokevirtual 98, 3) := by decide +kernel
theorem d_Law_law_734 : decode b_Law_law 734 = .ok (.aload_n 2, 1) := by decide +kernel
theorem d_Law_law_735 : decode b_Law_law 735 = .ok (.aload_n 0, 1) := by decide +kernel
theorem d_Law_law_736 : decode b_Law_law 736 = .ok (.iload_n 3, 1) := by decide +kernel
theorem d_Law_law_737 : decode b_Law_law 737 = .ok (.iconst 1, 1) := by decide +kernel
theorem d_Law_law_738 : decode b_Law_law 738 = .ok (.iadd, 1) := by decide +kernel
theorem d_Law_law_739 : decode b_Law_law 739 = .ok (.iaload, 1) := by decide +kernel
theorem d_Law_law_740 : decode b_Law_law 740 = .ok (.invokevirtual 101, 3) := by decide +kernel
theorem d_Law_law_743 : decode b_Law_law 743 = .ok (.if_icmp .eq 5, 3) := by decide +kernel
theorem d_Law_law_746 : decode b_Law_law 746 = .ok (.iconst 0, 1) := by decide +kernel
theorem d_Law_law_747 : decode b_Law_law 747 = .ok (.ireturn, 1) := by decide +kernel
theorem d_Law_law_748 : decode b_Law_law 748 = .ok (.iinc 3 5, 3) := by decide +kernel
theorem d_Law_law_751 : decode b_Law_law 751 = .ok (.goto (-733), 3) := by decide +kernel
theorem d_Law_law_754 : decode b_Law_law 754 = .ok (.iconst 1, 1) := by decide +kernel
theorem d_Law_law_755 : decode b_Law_law 755 = .ok (.ireturn, 1) := by decide +kernel

theorem d_Law_cell_0 : decode b_Law_cell 0 = .ok (.iload_n 1, 1) := by decide +kernel
theorem d_Law_cell_1 : decode b_Law_cell 1 = .ok (.aload_n 0, 1) := by decide +kernel
theorem d_Law_cell_2 : decode b_Law_cell 2 = .ok (.arraylength, 1) := by decide +kernel
theorem d_Law_cell_3 : decode b_Law_cell 3 = .ok (.if_icmp .ge 9, 3) := by decide +kernel
theorem d_Law_cell_6 : decode b_Law_cell 6 = .ok (.aload_n 0, 1) := by decide +kernel
theorem d_Law_cell_7 : decode b_Law_cell 7 = .ok (.iload_n 1, 1) := by decide +kernel
theorem d_Law_cell_8 : decode b_Law_cell 8 = .ok (.iaload, 1) := by decide +kernel
theorem d_Law_cell_9 : decode b_Law_cell 9 = .ok (.goto 4, 3) := by decide +kernel
theorem d_Law_cell_12 : decode b_Law_cell 12 = .ok (.iconst 0, 1) := by decide +kernel
theorem d_Law_cell_13 : decode b_Law_cell 13 = .ok (.ireturn, 1) := by decide +kernel
theorem d_Law_law_0 : decode code 0 = .ok (.new 7, 3) := by decide +kernel
theorem d_Law_law_3 : decode code 3 = .ok (.dup, 1) := by decide +kernel
theorem d_Law_law_4 : decode code 4 = .ok (.aload_n 0, 1) := by decide +kernel
theorem d_Law_law_5 : decode code 5 = .ok (.iconst 0, 1) := by decide +kernel
theorem d_Law_law_6 : decode code 6 = .ok (.invokestatic 9, 3) := by decide +kernel
theorem d_Law_law_9 : decode code 9 = .ok (.aload_n 0, 1) := by decide +kernel
theorem d_Law_law_10 : decode code 10 = .ok (.iconst 1, 1) := by decide +kernel
theorem d_Law_law_11 : decode code 11 = .ok (.invokestatic 9, 3) := by decide +kernel
theorem d_Law_law_14 : decode code 14 = .ok (.invokespecial 15, 3) := by decide +kernel
theorem d_Law_law_17 : decode code 17 = .ok (.astore_n 1, 1) := by decide +kernel
theorem d_Law_law_18 : decode code 18 = .ok (.new 18, 3) := by decide +kernel
theorem d_Law_law_21 : decode code 21 = .ok (.dup, 1) := by decide +kernel
theorem d_Law_law_22 : decode code 22 = .ok (.aload_n 0, 1) := by decide +kernel
theorem d_Law_law_23 : decode code 23 = .ok (.iconst 0, 1) := by decide +kernel
theorem d_Law_law_24 : decode code 24 = .ok (.invokestatic 9, 3) := by decide +kernel
theorem d_Law_law_27 : decode code 27 = .ok (.aload_n 0, 1) := by decide +kernel
theorem d_Law_law_28 : decode code 28 = .ok (.iconst 1, 1) := by decide +kernel
theorem d_Law_law_29 : decode code 29 = .ok (.invokestatic 9, 3) := by decide +kernel
theorem d_Law_law_32 : decode code 32 = .ok (.invokespecial 20, 3) := by decide +kernel
theorem d_Law_law_35 : decode code 35 = .ok (.astore_n 2, 1) := by decide +kernel
theorem d_Law_law_36 : decode code 36 = .ok (.iconst 2, 1) := by decide +kernel
theorem d_Law_law_37 : decode code 37 = .ok (.istore_n 3, 1) := by decide +kernel
theorem d_Law_law_38 : decode code 38 = .ok (.iload_n 3, 1) := by decide +kernel
theorem d_Law_law_39 : decode code 39 = .ok (.aload_n 0, 1) := by decide +kernel
theorem d_Law_law_40 : decode code 40 = .ok (.arraylength, 1) := by decide +kernel
theorem d_Law_law_41 : decode code 41 = .ok (.iconst 4, 1) := by decide +kernel
theorem d_Law_law_42 : decode code 42 = .ok (.isub, 1) := by decide +kernel
theorem d_Law_law_43 : decode code 43 = .ok (.if_icmp .gt 563, 3) := by decide +kernel
theorem d_Law_law_46 : decode code 46 = .ok (.aload_n 0, 1) := by decide +kernel
theorem d_Law_law_47 : decode code 47 = .ok (.iload_n 3, 1) := by decide +kernel
theorem d_Law_law_48 : decode code 48 = .ok (.iaload, 1) := by decide +kernel
theorem d_Law_law_49 : decode code 49 = .ok (.bipush 15, 2) := by decide +kernel
theorem d_Law_law_51 : decode code 51 = .ok (.iand, 1) := by decide +kernel
theorem d_Law_law_52 : decode code 52 = .ok (.tableswitch 548 0 15 #[80, 113, 156, 179, 222, 265, 278, 311, 334, 357, 380, 413, 446, 469, 492, 515], 80) := by decide +kernel
theorem d_Law_law_132 : decode code 132 = .ok (.aload_n 1, 1) := by decide +kernel
theorem d_Law_law_133 : decode code 133 = .ok (.aload_n 0, 1) := by decide +kernel
theorem d_Law_law_134 : decode code 134 = .ok (.iload_n 3, 1) := by decide +kernel
theorem d_Law_law_135 : decode code 135 = .ok (.iconst 1, 1) := by decide +kernel
theorem d_Law_law_136 : decode code 136 = .ok (.iadd, 1) := by decide +kernel
theorem d_Law_law_137 : decode code 137 = .ok (.iaload, 1) := by decide +kernel
theorem d_Law_law_138 : decode code 138 = .ok (.aload_n 0, 1) := by decide +kernel
theorem d_Law_law_139 : decode code 139 = .ok (.iload_n 3, 1) := by decide +kernel
theorem d_Law_law_140 : decode code 140 = .ok (.iconst 2, 1) := by decide +kernel
theorem d_Law_law_141 : decode code 141 = .ok (.iadd, 1) := by decide +kernel
theorem d_Law_law_142 : decode code 142 = .ok (.iaload, 1) := by decide +kernel
theorem d_Law_law_143 : decode code 143 = .ok (.invokevirtual 21, 3) := by decide +kernel
theorem d_Law_law_146 : decode code 146 = .ok (.aload_n 2, 1) := by decide +kernel
theorem d_Law_law_147 : decode code 147 = .ok (.aload_n 0, 1) := by decide +kernel
theorem d_Law_law_148 : decode code 148 = .ok (.iload_n 3, 1) := by decide +kernel
theorem d_Law_law_149 : decode code 149 = .ok (.iconst 1, 1) := by decide +kernel
theorem d_Law_law_150 : decode code 150 = .ok (.iadd, 1) := by decide +kernel
theorem d_Law_law_151 : decode code 151 = .ok (.iaload, 1) := by decide +kernel
theorem d_Law_law_152 : decode code 152 = .ok (.aload_n 0, 1) := by decide +kernel
theorem d_Law_law_153 : decode code 153 = .ok (.iload_n 3, 1) := by decide +kernel
theorem d_Law_law_154 : decode code 154 = .ok (.iconst 2, 1) := by decide +kernel
theorem d_Law_law_155 : decode code 155 = .ok (.iadd, 1) := by decide +kernel
theorem d_Law_law_156 : decode code 156 = .ok (.iaload, 1) := by decide +kernel
theorem d_Law_law_157 : decode code 157 = .ok (.invokevirtual 25, 3) := by decide +kernel
theorem d_Law_law_160 : decode code 160 = .ok (.if_icmp .eq 440, 3) := by decide +kernel
theorem d_Law_law_163 : decode code 163 = .ok (.iconst 0, 1) := by decide +kernel
theorem d_Law_law_164 : decode code 164 = .ok (.ireturn, 1) := by decide +kernel
theorem d_Law_law_165 : decode code 165 = .ok (.aload_n 1, 1) := by decide +kernel
theorem d_Law_law_166 : decode code 166 = .ok (.aload_n 0, 1) := by decide +kernel
theorem d_Law_law_167 : decode code 167 = .ok (.iload_n 3, 1) := by decide +kernel
theorem d_Law_law_168 : decode code 168 = .ok (.iconst 1, 1) := by decide +kernel
theorem d_Law_law_169 : decode code 169 = .ok (.iadd, 1) := by decide +kernel
theorem d_Law_law_170 : decode code 170 = .ok (.iaload, 1) := by decide +kernel
theorem d_Law_law_171 : decode code 171 = .ok (.aload_n 0, 1) := by decide +kernel
theorem d_Law_law_172 : decode code 172 = .ok (.iload_n 3, 1) := by decide +kernel
theorem d_Law_law_173 : decode code 173 = .ok (.iconst 2, 1) := by decide +kernel
theorem d_Law_law_174 : decode code 174 = .ok (.iadd, 1) := by decide +kernel
theorem d_Law_law_175 : decode code 175 = .ok (.iaload, 1) := by decide +kernel
theorem d_Law_law_176 : decode code 176 = .ok (.aload_n 0, 1) := by decide +kernel
theorem d_Law_law_177 : decode code 177 = .ok (.iload_n 3, 1) := by decide +kernel
theorem d_Law_law_178 : decode code 178 = .ok (.iconst 3, 1) := by decide +kernel
theorem d_Law_law_179 : decode code 179 = .ok (.iadd, 1) := by decide +kernel
theorem d_Law_law_180 : decode code 180 = .ok (.iaload, 1) := by decide +kernel
theorem d_Law_law_181 : decode code 181 = .ok (.invokevirtual 26, 3) := by decide +kernel
theorem d_Law_law_184 : decode code 184 = .ok (.aload_n 2, 1) := by decide +kernel
theorem d_Law_law_185 : decode code 185 = .ok (.aload_n 0, 1) := by decide +kernel
theorem d_Law_law_186 : decode code 186 = .ok (.iload_n 3, 1) := by decide +kernel
theorem d_Law_law_187 : decode code 187 = .ok (.iconst 1, 1) := by decide +kernel
theorem d_Law_law_188 : decode code 188 = .ok (.iadd, 1) := by decide +kernel
theorem d_Law_law_189 : decode code 189 = .ok (.iaload, 1) := by decide +kernel
theorem d_Law_law_190 : decode code 190 = .ok (.aload_n 0, 1) := by decide +kernel
theorem d_Law_law_191 : decode code 191 = .ok (.iload_n 3, 1) := by decide +kernel
theorem d_Law_law_192 : decode code 192 = .ok (.iconst 2, 1) := by decide +kernel
theorem d_Law_law_193 : decode code 193 = .ok (.iadd, 1) := by decide +kernel
theorem d_Law_law_194 : decode code 194 = .ok (.iaload, 1) := by decide +kernel
theorem d_Law_law_195 : decode code 195 = .ok (.aload_n 0, 1) := by decide +kernel
theorem d_Law_law_196 : decode code 196 = .ok (.iload_n 3, 1) := by decide +kernel
theorem d_Law_law_197 : decode code 197 = .ok (.iconst 3, 1) := by decide +kernel
theorem d_Law_law_198 : decode code 198 = .ok (.iadd, 1) := by decide +kernel
theorem d_Law_law_199 : decode code 199 = .ok (.iaload, 1) := by decide +kernel
theorem d_Law_law_200 : decode code 200 = .ok (.invokevirtual 30, 3) := by decide +kernel
theorem d_Law_law_203 : decode code 203 = .ok (.if_icmp .eq 397, 3) := by decide +kernel
theorem d_Law_law_206 : decode code 206 = .ok (.iconst 0, 1) := by decide +kernel
theorem d_Law_law_207 : decode code 207 = .ok (.ireturn, 1) := by decide +kernel
theorem d_Law_law_208 : decode code 208 = .ok (.aload_n 1, 1) := by decide +kernel
theorem d_Law_law_209 : decode code 209 = .ok (.aload_n 0, 1) := by decide +kernel
theorem d_Law_law_210 : decode code 210 = .ok (.iload_n 3, 1) := by decide +kernel
theorem d_Law_law_211 : decode code 211 = .ok (.iconst 1, 1) := by decide +kernel
theorem d_Law_law_212 : decode code 212 = .ok (.iadd, 1) := by decide +kernel
theorem d_Law_law_213 : decode code 213 = .ok (.iaload, 1) := by decide +kernel
theorem d_Law_law_214 : decode code 214 = .ok (.invokevirtual 31, 3) := by decide +kernel
theorem d_Law_law_217 : decode code 217 = .ok (.aload_n 2, 1) := by decide +kernel
theorem d_Law_law_218 : decode code 218 = .ok (.aload_n 0, 1) := by decide +kernel
theorem d_Law_law_219 : decode code 219 = .ok (.iload_n 3, 1) := by decide +kernel
theorem d_Law_law_220 : decode code 220 = .ok (.iconst 1, 1) := by decide +kernel
theorem d_Law_law_221 : decode code 221 = .ok (.iadd, 1) := by decide +kernel
theorem d_Law_law_222 : decode code 222 = .ok (.iaload, 1) := by decide +kernel
theorem d_Law_law_223 : decode code 223 = .ok (.invokevirtual 35, 3) := by decide +kernel
theorem d_Law_law_226 : decode code 226 = .ok (.if_icmp .eq 374, 3) := by decide +kernel
theorem d_Law_law_229 : decode code 229 = .ok (.iconst 0, 1) := by decide +kernel
theorem d_Law_law_230 : decode code 230 = .ok (.ireturn, 1) := by decide +kernel
theorem d_Law_law_231 : decode code 231 = .ok (.aload_n 1, 1) := by decide +kernel
theorem d_Law_law_232 : decode code 232 = .ok (.aload_n 0, 1) := by decide +kernel
theorem d_Law_law_233 : decode code 233 = .ok (.iload_n 3, 1) := by decide +kernel
theorem d_Law_law_234 : decode code 234 = .ok (.iconst 1, 1) := by decide +kernel
theorem d_Law_law_235 : decode code 235 = .ok (.iadd, 1) := by decide +kernel
theorem d_Law_law_236 : decode code 236 = .ok (.iaload, 1) := by decide +kernel
theorem d_Law_law_237 : decode code 237 = .ok (.aload_n 0, 1) := by decide +kernel
theorem d_Law_law_238 : decode code 238 = .ok (.iload_n 3, 1) := by decide +kernel
theorem d_Law_law_239 : decode code 239 = .ok (.iconst 2, 1) := by decide +kernel
theorem d_Law_law_240 : decode code 240 = .ok (.iadd, 1) := by decide +kernel
theorem d_Law_law_241 : decode code 241 = .ok (.iaload, 1) := by decide +kernel
theorem d_Law_law_242 : decode code 242 = .ok (.aload_n 0, 1) := by decide +kernel
theorem d_Law_law_243 : decode code 243 = .ok (.iload_n 3, 1) := by decide +kernel
theorem d_Law_law_244 : decode code 244 = .ok (.iconst 3, 1) := by decide +kernel
theorem d_Law_law_245 : decode code 245 = .ok (.iadd, 1) := by decide +kernel
theorem d_Law_law_246 : decode code 246 = .ok (.iaload, 1) := by decide +kernel
theorem d_Law_law_247 : decode code 247 = .ok (.invokevirtual 36, 3) := by decide +kernel
theorem d_Law_law_250 : decode code 250 = .ok (.aload_n 2, 1) := by decide +kernel
theorem d_Law_law_251 : decode code 251 = .ok (.aload_n 0, 1) := by decide +kernel
theorem d_Law_law_252 : decode code 252 = .ok (.iload_n 3, 1) := by decide +kernel
theorem d_Law_law_253 : decode code 253 = .ok (.iconst 1, 1) := by decide +kernel
theorem d_Law_law_254 : decode code 254 = .ok (.iadd, 1) := by decide +kernel
theorem d_Law_law_255 : decode code 255 = .ok (.iaload, 1) := by decide +kernel
theorem d_Law_law_256 : decode code 256 = .ok (.aload_n 0, 1) := by decide +kernel
theorem d_Law_law_257 : decode code 257 = .ok (.iload_n 3, 1) := by decide +kernel
theorem d_Law_law_258 : decode code 258 = .ok (.iconst 2, 1) := by decide +kernel
theorem d_Law_law_259 : decode code 259 = .ok (.iadd, 1) := by decide +kernel
theorem d_Law_law_260 : decode code 260 = .ok (.iaload, 1) := by decide +kernel
theorem d_Law_law_261 : decode code 261 = .ok (.aload_n 0, 1) := by decide +kernel
theorem d_Law_law_262 : decode code 262 = .ok (.iload_n 3, 1) := by decide +kernel
theorem d_Law_law_263 : decode code 263 = .ok (.iconst 3, 1) := by decide +kernel
theorem d_Law_law_264 : decode code 264 = .ok (.iadd, 1) := by decide +kernel
theorem d_Law_law_265 : decode code 265 = .ok (.iaload, 1) := by decide +kernel
theorem d_Law_law_266 : decode code 266 = .ok (.invokevirtual 39, 3) := by decide +kernel
theorem d_Law_law_269 : decode code 269 = .ok (.if_icmp .eq 331, 3) := by decide +kernel
theorem d_Law_law_272 : decode code 272 = .ok (.iconst 0, 1) := by decide +kernel
theorem d_Law_law_273 : decode code 273 = .ok (.ireturn, 1) := by decide +kernel
theorem d_Law_law_274 : decode code 274 = .ok (.aload_n 1, 1) := by decide +kernel
theorem d_Law_law_275 : decode code 275 = .ok (.aload_n 0, 1) := by decide +kernel
theorem d_Law_law_276 : decode code 276 = .ok (.iload_n 3, 1) := by decide +kernel
theorem d_Law_law_277 : decode code 277 = .ok (.iconst 1, 1) := by decide +kernel
theorem d_Law_law_278 : decode code 278 = .ok (.iadd, 1) := by decide +kernel
theorem d_Law_law_279 : decode code 279 = .ok (.iaload, 1) := by decide +kernel
theorem d_Law_law_280 : decode code 280 = .ok (.aload_n 0, 1) := by decide +kernel
theorem d_Law_law_281 : decode code 281 = .ok (.iload_n 3, 1) := by decide +kernel
theorem d_Law_law_282 : decode code 282 = .ok (.iconst 2, 1) := by decide +kernel
theorem d_Law_law_283 : decode code 283 = .ok (.iadd, 1) := by decide +kernel
theorem d_Law_law_284 : decode code 284 = .ok (.iaload, 1) := by decide +kernel
theorem d_Law_law_285 : decode code 285 = .ok (.aload_n 0, 1) := by decide +kernel
theorem d_Law_law_286 : decode code 286 = .ok (.iload_n 3, 1) := by decide +kernel
theorem d_Law_law_287 : decode code 287 = .ok (.iconst 3, 1) := by decide +kernel
theorem d_Law_law_288 : decode code 288 = .ok (.iadd, 1) := by decide +kernel
theorem d_Law_law_289 : decode code 289 = .ok (.iaload, 1) := by decide +kernel
theorem d_Law_law_290 : decode code 290 = .ok (.invokevirtual 40, 3) := by decide +kernel
theorem d_Law_law_293 : decode code 293 = .ok (.aload_n 2, 1) := by decide +kernel
theorem d_Law_law_294 : decode code 294 = .ok (.aload_n 0, 1) := by decide +kernel
theorem d_Law_law_295 : decode code 295 = .ok (.iload_n 3, 1) := by decide +kernel
theorem d_Law_law_296 : decode code 296 = .ok (.iconst 1, 1) := by decide +kernel
theorem d_Law_law_297 : decode code 297 = .ok (.iadd, 1) := by decide +kernel
theorem d_Law_law_298 : decode code 298 = .ok (.iaload, 1) := by decide +kernel
theorem d_Law_law_299 : decode code 299 = .ok (.aload_n 0, 1) := by decide +kernel
theorem d_Law_law_300 : decode code 300 = .ok (.iload_n 3, 1) := by decide +kernel
theorem d_Law_law_301 : decode code 301 = .ok (.iconst 2, 1) := by decide +kernel
theorem d_Law_law_302 : decode code 302 = .ok (.iadd, 1) := by decide +kernel
theorem d_Law_law_303 : decode code 303 = .ok (.iaload, 1) := by decide +kernel
theorem d_Law_law_304 : decode code 304 = .ok (.aload_n 0, 1) := by decide +kernel
theorem d_Law_law_305 : decode code 305 = .ok (.iload_n 3, 1) := by decide +kernel
theorem d_Law_law_306 : decode code 306 = .ok (.iconst 3, 1) := by decide +kernel
theorem d_Law_law_307 : decode code 307 = .ok (.iadd, 1) := by decide +kernel
theorem d_Law_law_308 : decode code 308 = .ok (.iaload, 1) := by decide +kernel
theorem d_Law_law_309 : decode code 309 = .ok (.invokevirtual 43, 3) := by decide +kernel
theorem d_Law_law_312 : decode code 312 = .ok (.if_icmp .eq 288, 3) := by decide +kernel
theorem d_Law_law_315 : decode code 315 = .ok (.iconst 0, 1) := by decide +kernel
theorem d_Law_law_316 : decode code 316 = .ok (.ireturn, 1) := by decide +kernel
theorem d_Law_law_317 : decode code 317 = .ok (.aload_n 1, 1) := by decide +kernel
theorem d_Law_law_318 : decode code 318 = .ok (.invokevirtual 44, 3) := by decide +kernel
theorem d_Law_law_321 : decode code 321 = .ok (.aload_n 2, 1) := by decide +kernel
theorem d_Law_law_322 : decode code 322 = .ok (.invokevirtual 48, 3) := by decide +kernel
theorem d_Law_law_325 : decode code 325 = .ok (.if_icmp .eq 275, 3) := by decide +kernel
theorem d_Law_law_328 : decode code 328 = .ok (.iconst 0, 1) := by decide +kernel
theorem d_Law_law_329 : decode code 329 = .ok (.ireturn, 1) := by decide +kernel
theorem d_Law_law_330 : decode code 330 = .ok (.aload_n 1, 1) := by decide +kernel
theorem d_Law_law_331 : decode code 331 = .ok (.aload_n 0, 1) := by decide +kernel
theorem d_Law_law_332 : decode code 332 = .ok (.iload_n 3, 1) := by decide +kernel
theorem d_Law_law_333 : decode code 333 = .ok (.iconst 1, 1) := by decide +kernel
theorem d_Law_law_334 : decode code 334 = .ok (.iadd, 1) := by decide +kernel
theorem d_Law_law_335 : decode code 335 = .ok (.iaload, 1) := by decide +kernel
theorem d_Law_law_336 : decode code 336 = .ok (.aload_n 0, 1) := by decide +kernel
theorem d_Law_law_337 : decode code 337 = .ok (.iload_n 3, 1) := by decide +kernel
theorem d_Law_law_338 : decode code 338 = .ok (.iconst 2, 1) := by decide +kernel
theorem d_Law_law_339 : decode code 339 = .ok (.iadd, 1) := by decide +kernel
theorem d_Law_law_340 : decode code 340 = .ok (.iaload, 1) := by decide +kernel
theorem d_Law_law_341 : decode code 341 = .ok (.invokevirtual 49, 3) := by decide +kernel
theorem d_Law_law_344 : decode code 344 = .ok (.aload_n 2, 1) := by decide +kernel
theorem d_Law_law_345 : decode code 345 = .ok (.aload_n 0, 1) := by decide +kernel
theorem d_Law_law_346 : decode code 346 = .ok (.iload_n 3, 1) := by decide +kernel
theorem d_Law_law_347 : decode code 347 = .ok (.iconst 1, 1) := by decide +kernel
theorem d_Law_law_348 : decode code 348 = .ok (.iadd, 1) := by decide +kernel
theorem d_Law_law_349 : decode code 349 = .ok (.iaload, 1) := by decide +kernel
theorem d_Law_law_350 : decode code 350 = .ok (.aload_n 0, 1) := by decide +kernel
theorem d_Law_law_351 : decode code 351 = .ok (.iload_n 3, 1) := by decide +kernel
theorem d_Law_law_352 : decode code 352 = .ok (.iconst 2, 1) := by decide +kernel
theorem d_Law_law_353 : decode code 353 = .ok (.iadd, 1) := by decide +kernel
theorem d_Law_law_354 : decode code 354 = .ok (.iaload, 1) := by decide +kernel
theorem d_Law_law_355 : decode code 355 = .ok (.invokevirtual 52, 3) := by decide +kernel
theorem d_Law_law_358 : decode code 358 = .ok (.if_icmp .eq 242, 3) := by decide +kernel
theorem d_Law_law_361 : decode code 361 = .ok (.iconst 0, 1) := by decide +kernel
theorem d_Law_law_362 : decode code 362 = .ok (.ireturn, 1) := by decide +kernel
theorem d_Law_law_363 : decode code 363 = .ok (.aload_n 1, 1) := by decide +kernel
theorem d_Law_law_364 : decode code 364 = .ok (.aload_n 0, 1) := by decide +kernel
theorem d_Law_law_365 : decode code 365 = .ok (.iload_n 3, 1) := by decide +kernel
theorem d_Law_law_366 : decode code 366 = .ok (.iconst 1, 1) := by decide +kernel
theorem d_Law_law_367 : decode code 367 = .ok (.iadd, 1) := by decide +kernel
theorem d_Law_law_368 : decode code 368 = .ok (.iaload, 1) := by decide +kernel
theorem d_Law_law_369 : decode code 369 = .ok (.invokevirtual 53, 3) := by decide +kernel
theorem d_Law_law_372 : decode code 372 = .ok (.aload_n 2, 1) := by decide +kernel
theorem d_Law_law_373 : decode code 373 = .ok (.aload_n 0, 1) := by decide +kernel
theorem d_Law_law_374 : decode code 374 = .ok (.iload_n 3, 1) := by decide +kernel
theorem d_Law_law_375 : decode code 375 = .ok (.iconst 1, 1) := by decide +kernel
theorem d_Law_law_376 : decode code 376 = .ok (.iadd, 1) := by decide +kernel
theorem d_Law_law_377 : decode code 377 = .ok (.iaload, 1) := by decide +kernel
theorem d_Law_law_378 : decode code 378 = .ok (.invokevirtual 56, 3) := by decide +kernel
theorem d_Law_law_381 : decode code 381 = .ok (.if_icmp .eq 219, 3) := by decide +kernel
theorem d_Law_law_384 : decode code 384 = .ok (.iconst 0, 1) := by decide +kernel
theorem d_Law_law_385 : decode code 385 = .ok (.ireturn, 1) := by decide +kernel
theorem d_Law_law_386 : decode code 386 = .ok (.aload_n 1, 1) := by decide +kernel
theorem d_Law_law_387 : decode code 387 = .ok (.aload_n 0, 1) := by decide +kernel
theorem d_Law_law_388 : decode code 388 = .ok (.iload_n 3, 1) := by decide +kernel
theorem d_Law_law_389 : decode code 389 = .ok (.iconst 1, 1) := by decide +kernel
theorem d_Law_law_390 : decode code 390 = .ok (.iadd, 1) := by decide +kernel
theorem d_Law_law_391 : decode code 391 = .ok (.iaload, 1) := by decide +kernel
theorem d_Law_law_392 : decode code 392 = .ok (.invokevirtual 57, 3) := by decide +kernel
theorem d_Law_law_395 : decode code 395 = .ok (.aload_n 2, 1) := by decide +kernel
theorem d_Law_law_396 : decode code 396 = .ok (.aload_n 0, 1) := by decide +kernel
theorem d_Law_law_397 : decode code 397 = .ok (.iload_n 3, 1) := by decide +kernel
theorem d_Law_law_398 : decode code 398 = .ok (.iconst 1, 1) := by decide +kernel
theorem d_Law_law_399 : decode code 399 = .ok (.iadd, 1) := by decide +kernel
theorem d_Law_law_400 : decode code 400 = .ok (.iaload, 1) := by decide +kernel
theorem d_Law_law_401 : decode code 401 = .ok (.invokevirtual 60, 3) := by decide +kernel
theorem d_Law_law_404 : decode code 404 = .ok (.if_icmp .eq 196, 3) := by decide +kernel
theorem d_Law_law_407 : decode code 407 = .ok (.iconst 0, 1) := by decide +kernel
theorem d_Law_law_408 : decode code 408 = .ok (.ireturn, 1) := by decide +kernel
theorem d_Law_law_409 : decode code 409 = .ok (.aload_n 1, 1) := by decide +kernel
theorem d_Law_law_410 : decode code 410 = .ok (.aload_n 0, 1) := by decide +kernel
theorem d_Law_law_411 : decode code 411 = .ok (.iload_n 3, 1) := by decide +kernel
theorem d_Law_law_412 : decode code 412 = .ok (.iconst 1, 1) := by decide +kernel
theorem d_Law_law_413 : decode code 413 = .ok (.iadd, 1) := by decide +kernel
theorem d_Law_law_414 : decode code 414 = .ok (.iaload, 1) := by decide +kernel
theorem d_Law_law_415 : decode code 415 = .ok (.invokevirtual 61, 3) := by decide +kernel
theorem d_Law_law_418 : decode code 418 = .ok (.aload_n 2, 1) := by decide +kernel
theorem d_Law_law_419 : decode code 419 = .ok (.aload_n 0, 1) := by decide +kernel
theorem d_Law_law_420 : decode code 420 = .ok (.iload_n 3, 1) := by decide +kernel
theorem d_Law_law_421 : decode code 421 = .ok (.iconst 1, 1) := by decide +kernel
theorem d_Law_law_422 : decode code 422 = .ok (.iadd, 1) := by decide +kernel
theorem d_Law_law_423 : decode code 423 = .ok (.iaload, 1) := by decide +kernel
theorem d_Law_law_424 : decode code 424 = .ok (.invokevirtual 64, 3) := by decide +kernel
theorem d_Law_law_427 : decode code 427 = .ok (.if_icmp .eq 173, 3) := by decide +kernel
theorem d_Law_law_430 : decode code 430 = .ok (.iconst 0, 1) := by decide +kernel
theorem d_Law_law_431 : decode code 431 = .ok (.ireturn, 1) := by decide +kernel
theorem d_Law_law_432 : decode code 432 = .ok (.aload_n 1, 1) := by decide +kernel
theorem d_Law_law_433 : decode code 433 = .ok (.aload_n 0, 1) := by decide +kernel
theorem d_Law_law_434 : decode code 434 = .ok (.iload_n 3, 1) := by decide +kernel
theorem d_Law_law_435 : decode code 435 = .ok (.iconst 1, 1) := by decide +kernel
theorem d_Law_law_436 : decode code 436 = .ok (.iadd, 1) := by decide +kernel
theorem d_Law_law_437 : decode code 437 = .ok (.iaload, 1) := by decide +kernel
theorem d_Law_law_438 : decode code 438 = .ok (.aload_n 0, 1) := by decide +kernel
theorem d_Law_law_439 : decode code 439 = .ok (.iload_n 3, 1) := by decide +kernel
theorem d_Law_law_440 : decode code 440 = .ok (.iconst 2, 1) := by decide +kernel
theorem d_Law_law_441 : decode code 441 = .ok (.iadd, 1) := by decide +kernel
theorem d_Law_law_442 : decode code 442 = .ok (.iaload, 1) := by decide +kernel
theorem d_Law_law_443 : decode code 443 = .ok (.invokevirtual 65, 3) := by decide +kernel
theorem d_Law_law_446 : decode code 446 = .ok (.aload_n 2, 1) := by decide +kernel
theorem d_Law_law_447 : decode code 447 = .ok (.aload_n 0, 1) := by decide +kernel
theorem d_Law_law_448 : decode code 448 = .ok (.iload_n 3, 1) := by decide +kernel
theorem d_Law_law_449 : decode code 449 = .ok (.iconst 1, 1) := by decide +kernel
theorem d_Law_law_450 : decode code 450 = .ok (.iadd, 1) := by decide +kernel
theorem d_Law_law_451 : decode code 451 = .ok (.iaload, 1) := by decide +kernel
theorem d_Law_law_452 : decode code 452 = .ok (.aload_n 0, 1) := by decide +kernel
theorem d_Law_law_453 : decode code 453 = .ok (.iload_n 3, 1) := by decide +kernel
theorem d_Law_law_454 : decode code 454 = .ok (.iconst 2, 1) := by decide +kernel
theorem d_Law_law_455 : decode code 455 = .ok (.iadd, 1) := by decide +kernel
theorem d_Law_law_456 : decode code 456 = .ok (.iaload, 1) := by decide +kernel
theorem d_Law_law_457 : decode code 457 = .ok (.invokevirtual 68, 3) := by decide +kernel
theorem d_Law_law_460 : decode code 460 = .ok (.if_icmp .eq 140, 3) := by decide +kernel
theorem d_Law_law_463 : decode code 463 = .ok (.iconst 0, 1) := by decide +kernel
theorem d_Law_law_464 : decode code 464 = .ok (.ireturn, 1) := by decide +kernel
theorem d_Law_law_465 : decode code 465 = .ok (.aload_n 1, 1) := by decide +kernel
theorem d_Law_law_466 : decode code 466 = .ok (.aload_n 0, 1) := by decide +kernel
theorem d_Law_law_467 : decode code 467 = .ok (.iload_n 3, 1) := by decide +kernel
theorem d_Law_law_468 : decode code 468 = .ok (.iconst 1, 1) := by decide +kernel
theorem d_Law_law_469 : decode code 469 = .ok (.iadd, 1) := by decide +kernel
theorem d_Law_law_470 : decode code 470 = .ok (.iaload, 1) := by decide +kernel
theorem d_Law_law_471 : decode code 471 = .ok (.aload_n 0, 1) := by decide +kernel
theorem d_Law_law_472 : decode code 472 = .ok (.iload_n 3, 1) := by decide +kernel
theorem d_Law_law_473 : decode code 473 = .ok (.iconst 2, 1) := by decide +kernel
theorem d_Law_law_474 : decode code 474 = .ok (.iadd, 1) := by decide +kernel
theorem d_Law_law_475 : decode code 475 = .ok (.iaload, 1) := by decide +kernel
theorem d_Law_law_476 : decode code 476 = .ok (.invokevirtual 69, 3) := by decide +kernel
theorem d_Law_law_479 : decode code 479 = .ok (.aload_n 2, 1) := by decide +kernel
theorem d_Law_law_480 : decode code 480 = .ok (.aload_n 0, 1) := by decide +kernel
theorem d_Law_law_481 : decode code 481 = .ok (.iload_n 3, 1) := by decide +kernel
theorem d_Law_law_482 : decode code 482 = .ok (.iconst 1, 1) := by decide +kernel
theorem d_Law_law_483 : decode code 483 = .ok (.iadd, 1) := by decide +kernel
theorem d_Law_law_484 : decode code 484 = .ok (.iaload, 1) := by decide +kernel
theorem d_Law_law_485 : decode code 485 = .ok (.aload_n 0, 1) := by decide +kernel
theorem d_Law_law_486 : decode code 486 = .ok (.iload_n 3, 1) := by decide +kernel
theorem d_Law_law_487 : decode code 487 = .ok (.iconst 2, 1) := by decide +kernel
theorem d_Law_law_488 : decode code 488 = .ok (.iadd, 1) := by decide +kernel
theorem d_Law_law_489 : decode code 489 = .ok (.iaload, 1) := by decide +kernel
theorem d_Law_law_490 : decode code 490 = .ok (.invokevirtual 72, 3) := by decide +kernel
theorem d_Law_law_493 : decode code 493 = .ok (.if_icmp .eq 107, 3) := by decide +kernel
theorem d_Law_law_496 : decode code 496 = .ok (.iconst 0, 1) := by decide +kernel
theorem d_Law_law_497 : decode code 497 = .ok (.ireturn, 1) := by decide +kernel
theorem d_Law_law_498 : decode code 498 = .ok (.aload_n 1, 1) := by decide +kernel
theorem d_Law_law_499 : decode code 499 = .ok (.aload_n 0, 1) := by decide +kernel
theorem d_Law_law_500 : decode code 500 = .ok (.iload_n 3, 1) := by decide +kernel
theorem d_Law_law_501 : decode code 501 = .ok (.iconst 1, 1) := by decide +kernel
theorem d_Law_law_502 : decode code 502 = .ok (.iadd, 1) := by decide +kernel
theorem d_Law_law_503 : decode code 503 = .ok (.iaload, 1) := by decide +kernel
theorem d_Law_law_504 : decode code 504 = .ok (.invokevirtual 73, 3) := by decide +kernel
theorem d_Law_law_507 : decode code 507 = .ok (.aload_n 2, 1) := by decide +kernel
theorem d_Law_law_508 : decode code 508 = .ok (.aload_n 0, 1) := by decide +kernel
theorem d_Law_law_509 : decode code 509 = .ok (.iload_n 3, 1) := by decide +kernel
theorem d_Law_law_510 : decode code 510 = .ok (.iconst 1, 1) := by decide +kernel
theorem d_Law_law_511 : decode code 511 = .ok (.iadd, 1) := by decide +kernel
theorem d_Law_law_512 : decode code 512 = .ok (.iaload, 1) := by decide +kernel
theorem d_Law_law_513 : decode code 513 = .ok (.invokevirtual 76, 3) := by decide +kernel
theorem d_Law_law_516 : decode code 516 = .ok (.if_icmp .eq 84, 3) := by decide +kernel
theorem d_Law_law_519 : decode code 519 = .ok (.iconst 0, 1) := by decide +kernel
theorem d_Law_law_520 : decode code 520 = .ok (.ireturn, 1) := by decide +kernel
theorem d_Law_law_521 : decode code 521 = .ok (.aload_n 1, 1) := by decide +kernel
theorem d_Law_law_522 : decode code 522 = .ok (.aload_n 0, 1) := by decide +kernel
theorem d_Law_law_523 : decode code 523 = .ok (.iload_n 3, 1) := by decide +kernel
theorem d_Law_law_524 : decode code 524 = .ok (.iconst 1, 1) := by decide +kernel
theorem d_Law_law_525 : decode code 525 = .ok (.iadd, 1) := by decide +kernel
theorem d_Law_law_526 : decode code 526 = .ok (.iaload, 1) := by decide +kernel
theorem d_Law_law_527 : decode code 527 = .ok (.invokevirtual 77, 3) := by decide +kernel
theorem d_Law_law_530 : decode code 530 = .ok (.aload_n 2, 1) := by decide +kernel
theorem d_Law_law_531 : decode code 531 = .ok (.aload_n 0, 1) := by decide +kernel
theorem d_Law_law_532 : decode code 532 = .ok (.iload_n 3, 1) := by decide +kernel
theorem d_Law_law_533 : decode code 533 = .ok (.iconst 1, 1) := by decide +kernel
theorem d_Law_law_534 : decode code 534 = .ok (.iadd, 1) := by decide +kernel
theorem d_Law_law_535 : decode code 535 = .ok (.iaload, 1) := by decide +kernel
theorem d_Law_law_536 : decode code 536 = .ok (.invokevirtual 80, 3) := by decide +kernel
theorem d_Law_law_539 : decode code 539 = .ok (.if_icmp .eq 61, 3) := by decide +kernel
theorem d_Law_law_542 : decode code 542 = .ok (.iconst 0, 1) := by decide +kernel
theorem d_Law_law_543 : decode code 543 = .ok (.ireturn, 1) := by decide +kernel
theorem d_Law_law_544 : decode code 544 = .ok (.aload_n 1, 1) := by decide +kernel
theorem d_Law_law_545 : decode code 545 = .ok (.aload_n 0, 1) := by decide +kernel
theorem d_Law_law_546 : decode code 546 = .ok (.iload_n 3, 1) := by decide +kernel
theorem d_Law_law_547 : decode code 547 = .ok (.iconst 1, 1) := by decide +kernel
theorem d_Law_law_548 : decode code 548 = .ok (.iadd, 1) := by decide +kernel
theorem d_Law_law_549 : decode code 549 = .ok (.iaload, 1) := by decide +kernel
theorem d_Law_law_550 : decode code 550 = .ok (.invokevirtual 81, 3) := by decide +kernel
theorem d_Law_law_553 : decode code 553 = .ok (.aload_n 2, 1) := by decide +kernel
theorem d_Law_law_554 : decode code 554 = .ok (.aload_n 0, 1) := by decide +kernel
theorem d_Law_law_555 : decode code 555 = .ok (.iload_n 3, 1) := by decide +kernel
theorem d_Law_law_556 : decode code 556 = .ok (.iconst 1, 1) := by decide +kernel
theorem d_Law_law_557 : decode code 557 = .ok (.iadd, 1) := by decide +kernel
theorem d_Law_law_558 : decode code 558 = .ok (.iaload, 1) := by decide +kernel
theorem d_Law_law_559 : decode code 559 = .ok (.invokevirtual 84, 3) := by decide +kernel
theorem d_Law_law_562 : decode code 562 = .ok (.if_icmp .eq 38, 3) := by decide +kernel
theorem d_Law_law_565 : decode code 565 = .ok (.iconst 0, 1) := by decide +kernel
theorem d_Law_law_566 : decode code 566 = .ok (.ireturn, 1) := by decide +kernel
theorem d_Law_law_567 : decode code 567 = .ok (.aload_n 1, 1) := by decide +kernel
theorem d_Law_law_568 : decode code 568 = .ok (.aload_n 0, 1) := by decide +kernel
theorem d_Law_law_569 : decode code 569 = .ok (.iload_n 3, 1) := by decide +kernel
theorem d_Law_law_570 : decode code 570 = .ok (.iconst 1, 1) := by decide +kernel
theorem d_Law_law_571 : decode code 571 = .ok (.iadd, 1) := by decide +kernel
theorem d_Law_law_572 : decode code 572 = .ok (.iaload, 1) := by decide +kernel
theorem d_Law_law_573 : decode code 573 = .ok (.aload_n 0, 1) := by decide +kernel
theorem d_Law_law_574 : decode code 574 = .ok (.iload_n 3, 1) := by decide +kernel
theorem d_Law_law_575 : decode code 575 = .ok (.iconst 2, 1) := by decide +kernel
theorem d_Law_law_576 : decode code 576 = .ok (.iadd, 1) := by decide +kernel
theorem d_Law_law_577 : decode code 577 = .ok (.iaload, 1) := by decide +kernel
theorem d_Law_law_578 : decode code 578 = .ok (.invokevirtual 85, 3) := by decide +kernel
theorem d_Law_law_581 : decode code 581 = .ok (.aload_n 2, 1) := by decide +kernel
theorem d_Law_law_582 : decode code 582 = .ok (.aload_n 0, 1) := by decide +kernel
theorem d_Law_law_583 : decode code 583 = .ok (.iload_n 3, 1) := by decide +kernel
theorem d_Law_law_584 : decode code 584 = .ok (.iconst 1, 1) := by decide +kernel
theorem d_Law_law_585 : decode code 585 = .ok (.iadd, 1) := by decide +kernel
theorem d_Law_law_586 : decode code 586 = .ok (.iaload, 1) := by decide +kernel
theorem d_Law_law_587 : decode code 587 = .ok (.aload_n 0, 1) := by decide +kernel
theorem d_Law_law_588 : decode code 588 = .ok (.iload_n 3, 1) := by decide +kernel
theorem d_Law_law_589 : decode code 589 = .ok (.iconst 2, 1) := by decide +kernel
theorem d_Law_law_590 : decode code 590 = .ok (.iadd, 1) := by decide +kernel
theorem d_Law_law_591 : decode code 591 = .ok (.iaload, 1) := by decide +kernel
theorem d_Law_law_592 : decode code 592 = .ok (.invokevirtual 88, 3) := by decide +kernel
theorem d_Law_law_595 : decode code 595 = .ok (.if_icmp .eq 5, 3) := by decide +kernel
theorem d_Law_law_598 : decode code 598 = .ok (.iconst 0, 1) := by decide +kernel
theorem d_Law_law_599 : decode code 599 = .ok (.ireturn, 1) := by decide +kernel
theorem d_Law_law_600 : decode code 600 = .ok (.iinc 3 4, 3) := by decide +kernel
theorem d_Law_law_603 : decode code 603 = .ok (.goto (-565), 3) := by decide +kernel
theorem d_Law_law_606 : decode code 606 = .ok (.iconst 1, 1) := by decide +kernel
theorem d_Law_law_607 : decode code 607 = .ok (.ireturn, 1) := by decide +kernel
theorem ilaw_c_7 : (Cond.classLink "SnoopingBusLaw" 7 "SnoopingBus") ∈ BG := List.mem_filter.mpr ⟨List.mem_append_right _ (List.mem_append_left _ (List.mem_of_getElem? (l := tables_1_1) (i := 8) rfl)), rfl⟩
theorem ilaw_m_15 : (Cond.methodLink "SnoopingBusLaw" 15 ⟨"SnoopingBus", "<init>", "(II)V"⟩) ∈ BG := List.mem_filter.mpr ⟨List.mem_append_right _ (List.mem_append_left _ (List.mem_of_getElem? (l := tables_1_1) (i := 10) rfl)), rfl⟩
theorem ilaw_over : (Cond.arrayOver (FieldType.object "SnoopingBus$Core")) ∈ lw_tbl := List.mem_append_right _ (List.mem_append_left _ (List.mem_of_getElem? (l := tables_1_1) (i := 40) rfl))
theorem ilaw_m_21 : (Cond.methodLink "SnoopingBusLaw" 21 ⟨"SnoopingBus", "load", "(II)I"⟩) ∈ BG := List.mem_filter.mpr ⟨List.mem_append_right _ (List.mem_append_left _ (List.mem_of_getElem? (l := tables_1_1) (i := 126) rfl)), rfl⟩
theorem ilaw_m_26 : (Cond.methodLink "SnoopingBusLaw" 26 ⟨"SnoopingBus", "store", "(III)I"⟩) ∈ BG := List.mem_filter.mpr ⟨List.mem_append_right _ (List.mem_append_left _ (List.mem_of_getElem? (l := tables_1_1) (i := 160) rfl)), rfl⟩
theorem ilaw_m_31 : (Cond.methodLink "SnoopingBusLaw" 31 ⟨"SnoopingBus", "drain", "(I)I"⟩) ∈ BG := List.mem_filter.mpr ⟨List.mem_append_right _ (List.mem_append_left _ (List.mem_of_getElem? (l := tables_1_1) (i := 168) rfl)), rfl⟩
theorem ilaw_m_36 : (Cond.methodLink "SnoopingBusLaw" 36 ⟨"SnoopingBus", "swap", "(III)I"⟩) ∈ BG := List.mem_filter.mpr ⟨List.mem_append_right _ (List.mem_append_left _ (List.mem_of_getElem? (l := tables_1_1) (i := 196) rfl)), rfl⟩
theorem ilaw_m_40 : (Cond.methodLink "SnoopingBusLaw" 40 ⟨"SnoopingBus", "add", "(III)I"⟩) ∈ BG := List.mem_filter.mpr ⟨List.mem_append_right _ (List.mem_append_left _ (List.mem_of_getElem? (l := tables_1_1) (i := 204) rfl)), rfl⟩
theorem ilaw_m_44 : (Cond.methodLink "SnoopingBusLaw" 44 ⟨"SnoopingBus", "bus", "()I"⟩) ∈ BG := List.mem_filter.mpr ⟨List.mem_append_right _ (List.mem_append_left _ (List.mem_of_getElem? (l := tables_1_1) (i := 208) rfl)), rfl⟩
theorem ilaw_m_49 : (Cond.methodLink "SnoopingBusLaw" 49 ⟨"SnoopingBus", "evict", "(II)I"⟩) ∈ BG := List.mem_filter.mpr ⟨List.mem_append_right _ (List.mem_append_right _ (List.mem_append_left _ (List.mem_of_getElem? (l := tables_1_2) (i := 18) rfl))), rfl⟩
theorem ilaw_m_53 : (Cond.methodLink "SnoopingBusLaw" 53 ⟨"SnoopingBus", "last", "(I)I"⟩) ∈ BG := List.mem_filter.mpr ⟨List.mem_append_right _ (List.mem_append_right _ (List.mem_append_left _ (List.mem_of_getElem? (l := tables_1_2) (i := 25) rfl))), rfl⟩
theorem ilaw_m_57 : (Cond.methodLink "SnoopingBusLaw" 57 ⟨"SnoopingBus", "request", "(I)I"⟩) ∈ BG := List.mem_filter.mpr ⟨List.mem_append_right _ (List.mem_append_right _ (List.mem_append_left _ (List.mem_of_getElem? (l := tables_1_2) (i := 29) rfl))), rfl⟩
theorem ilaw_m_61 : (Cond.methodLink "SnoopingBusLaw" 61 ⟨"SnoopingBus", "buffered", "(I)I"⟩) ∈ BG := List.mem_filter.mpr ⟨List.mem_append_right _ (List.mem_append_right _ (List.mem_append_left _ (List.mem_of_getElem? (l := tables_1_2) (i := 33) rfl))), rfl⟩
theorem ilaw_m_65 : (Cond.methodLink "SnoopingBusLaw" 65 ⟨"SnoopingBus", "state", "(II)I"⟩) ∈ BG := List.mem_filter.mpr ⟨List.mem_append_right _ (List.mem_append_right _ (List.mem_append_left _ (List.mem_of_getElem? (l := tables_1_2) (i := 37) rfl))), rfl⟩
theorem ilaw_m_69 : (Cond.methodLink "SnoopingBusLaw" 69 ⟨"SnoopingBus", "copy", "(II)I"⟩) ∈ BG := List.mem_filter.mpr ⟨List.mem_append_right _ (List.mem_append_right _ (List.mem_append_left _ (List.mem_of_getElem? (l := tables_1_2) (i := 41) rfl))), rfl⟩
theorem ilaw_m_73 : (Cond.methodLink "SnoopingBusLaw" 73 ⟨"SnoopingBus", "memory", "(I)I"⟩) ∈ BG := List.mem_filter.mpr ⟨List.mem_append_right _ (List.mem_append_right _ (List.mem_append_left _ (List.mem_of_getElem? (l := tables_1_2) (i := 45) rfl))), rfl⟩
theorem ilaw_m_77 : (Cond.methodLink "SnoopingBusLaw" 77 ⟨"SnoopingBus", "seen", "(I)I"⟩) ∈ BG := List.mem_filter.mpr ⟨List.mem_append_right _ (List.mem_append_right _ (List.mem_append_left _ (List.mem_of_getElem? (l := tables_1_2) (i := 49) rfl))), rfl⟩
theorem ilaw_m_81 : (Cond.methodLink "SnoopingBusLaw" 81 ⟨"SnoopingBus", "count", "(I)I"⟩) ∈ BG := List.mem_filter.mpr ⟨List.mem_append_right _ (List.mem_append_right _ (List.mem_append_left _ (List.mem_of_getElem? (l := tables_1_2) (i := 53) rfl))), rfl⟩
theorem ilaw_m_85 : (Cond.methodLink "SnoopingBusLaw" 85 ⟨"SnoopingBus", "victim", "(II)I"⟩) ∈ BG := List.mem_filter.mpr ⟨List.mem_append_right _ (List.mem_append_right _ (List.mem_append_left _ (List.mem_of_getElem? (l := tables_1_2) (i := 57) rfl))), rfl⟩
theorem ilaw_m_9 : (Cond.methodLink "SnoopingBusLaw" 9 ⟨"SnoopingBusLaw", "cell", "([II)I"⟩) ∈ BG := List.mem_filter.mpr ⟨List.mem_append_right _ (List.mem_append_right _ (List.mem_append_left _ (List.mem_of_getElem? (l := tables_1_2) (i := 62) rfl))), rfl⟩
theorem ilaw_c_18 : (Cond.classLink "SnoopingBusLaw" 18 "SnoopingBusModel") ∈ BG := List.mem_filter.mpr ⟨List.mem_append_right _ (List.mem_append_right _ (List.mem_append_left _ (List.mem_of_getElem? (l := tables_1_2) (i := 65) rfl))), rfl⟩
theorem ilaw_m_20 : (Cond.methodLink "SnoopingBusLaw" 20 ⟨"SnoopingBusModel", "<init>", "(II)V"⟩) ∈ BG := List.mem_filter.mpr ⟨List.mem_append_right _ (List.mem_append_right _ (List.mem_append_left _ (List.mem_of_getElem? (l := tables_1_2) (i := 67) rfl))), rfl⟩
theorem ilaw_m_25 : (Cond.methodLink "SnoopingBusLaw" 25 ⟨"SnoopingBusModel", "load", "(II)I"⟩) ∈ BG := List.mem_filter.mpr ⟨List.mem_append_right _ (List.mem_append_right _ (List.mem_append_left _ (List.mem_of_getElem? (l := tables_1_2) (i := 123) rfl))), rfl⟩
theorem ilaw_m_30 : (Cond.methodLink "SnoopingBusLaw" 30 ⟨"SnoopingBusModel", "store", "(III)I"⟩) ∈ BG := List.mem_filter.mpr ⟨List.mem_append_right _ (List.mem_append_right _ (List.mem_append_left _ (List.mem_of_getElem? (l := tables_1_2) (i := 154) rfl))), rfl⟩
theorem ilaw_m_35 : (Cond.methodLink "SnoopingBusLaw" 35 ⟨"SnoopingBusModel", "drain", "(I)I"⟩) ∈ BG := List.mem_filter.mpr ⟨List.mem_append_right _ (List.mem_append_right _ (List.mem_append_left _ (List.mem_of_getElem? (l := tables_1_2) (i := 158) rfl))), rfl⟩
theorem ilaw_m_39 : (Cond.methodLink "SnoopingBusLaw" 39 ⟨"SnoopingBusModel", "swap", "(III)I"⟩) ∈ BG := List.mem_filter.mpr ⟨List.mem_append_right _ (List.mem_append_right _ (List.mem_append_left _ (List.mem_of_getElem? (l := tables_1_2) (i := 174) rfl))), rfl⟩
theorem ilaw_m_43 : (Cond.methodLink "SnoopingBusLaw" 43 ⟨"SnoopingBusModel", "add", "(III)I"⟩) ∈ BG := List.mem_filter.mpr ⟨List.mem_append_right _ (List.mem_append_right _ (List.mem_append_left _ (List.mem_of_getElem? (l := tables_1_2) (i := 186) rfl))), rfl⟩
theorem ilaw_m_48 : (Cond.methodLink "SnoopingBusLaw" 48 ⟨"SnoopingBusModel", "bus", "()I"⟩) ∈ BG := List.mem_filter.mpr ⟨List.mem_append_right _ (List.mem_append_right _ (List.mem_append_left _ (List.mem_of_getElem? (l := tables_1_2) (i := 190) rfl))), rfl⟩
theorem ilaw_m_52 : (Cond.methodLink "SnoopingBusLaw" 52 ⟨"SnoopingBusModel", "evict", "(II)I"⟩) ∈ BG := List.mem_filter.mpr ⟨List.mem_append_right _ (List.mem_append_right _ (List.mem_append_left _ (List.mem_of_getElem? (l := tables_1_2) (i := 218) rfl))), rfl⟩
theorem ilaw_m_56 : (Cond.methodLink "SnoopingBusLaw" 56 ⟨"SnoopingBusModel", "last", "(I)I"⟩) ∈ BG := List.mem_filter.mpr ⟨List.mem_append_right _ (List.mem_append_right _ (List.mem_append_left _ (List.mem_of_getElem? (l := tables_1_2) (i := 222) rfl))), rfl⟩
theorem ilaw_m_60 : (Cond.methodLink "SnoopingBusLaw" 60 ⟨"SnoopingBusModel", "request", "(I)I"⟩) ∈ BG := List.mem_filter.mpr ⟨List.mem_append_right _ (List.mem_append_right _ (List.mem_append_left _ (List.mem_of_getElem? (l := tables_1_2) (i := 226) rfl))), rfl⟩
theorem ilaw_m_64 : (Cond.methodLink "SnoopingBusLaw" 64 ⟨"SnoopingBusModel", "buffered", "(I)I"⟩) ∈ BG := List.mem_filter.mpr ⟨List.mem_append_right _ (List.mem_append_right _ (List.mem_append_left _ (List.mem_of_getElem? (l := tables_1_2) (i := 230) rfl))), rfl⟩
theorem ilaw_m_68 : (Cond.methodLink "SnoopingBusLaw" 68 ⟨"SnoopingBusModel", "state", "(II)I"⟩) ∈ BG := List.mem_filter.mpr ⟨List.mem_append_right _ (List.mem_append_right _ (List.mem_append_left _ (List.mem_of_getElem? (l := tables_1_2) (i := 234) rfl))), rfl⟩
theorem ilaw_m_72 : (Cond.methodLink "SnoopingBusLaw" 72 ⟨"SnoopingBusModel", "copy", "(II)I"⟩) ∈ BG := List.mem_filter.mpr ⟨List.mem_append_right _ (List.mem_append_right _ (List.mem_append_left _ (List.mem_of_getElem? (l := tables_1_2) (i := 238) rfl))), rfl⟩
theorem ilaw_m_76 : (Cond.methodLink "SnoopingBusLaw" 76 ⟨"SnoopingBusModel", "memory", "(I)I"⟩) ∈ BG := List.mem_filter.mpr ⟨List.mem_append_right _ (List.mem_append_right _ (List.mem_append_right _ (List.mem_of_getElem? (l := tables_1_3) (i := 2) rfl))), rfl⟩
theorem ilaw_m_80 : (Cond.methodLink "SnoopingBusLaw" 80 ⟨"SnoopingBusModel", "seen", "(I)I"⟩) ∈ BG := List.mem_filter.mpr ⟨List.mem_append_right _ (List.mem_append_right _ (List.mem_append_right _ (List.mem_of_getElem? (l := tables_1_3) (i := 6) rfl))), rfl⟩
theorem ilaw_m_84 : (Cond.methodLink "SnoopingBusLaw" 84 ⟨"SnoopingBusModel", "count", "(I)I"⟩) ∈ BG := List.mem_filter.mpr ⟨List.mem_append_right _ (List.mem_append_right _ (List.mem_append_right _ (List.mem_of_getElem? (l := tables_1_3) (i := 10) rfl))), rfl⟩
theorem ilaw_m_88 : (Cond.methodLink "SnoopingBusLaw" 88 ⟨"SnoopingBusModel", "victim", "(II)I"⟩) ∈ BG := List.mem_filter.mpr ⟨List.mem_append_right _ (List.mem_append_right _ (List.mem_append_right _ (List.mem_of_getElem? (l := tables_1_3) (i := 14) rfl))), rfl⟩

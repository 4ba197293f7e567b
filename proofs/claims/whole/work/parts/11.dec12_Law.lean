/-! decode rows of RingPackerLaw -/
theorem d_Law_law_0 : decode code 0 = .ok (.new 7, 3) := by decide +kernel
theorem d_Law_law_3 : decode code 3 = .ok (.dup, 1) := by decide +kernel
theorem d_Law_law_4 : decode code 4 = .ok (.invokespecial 9, 3) := by decide +kernel
theorem d_Law_law_7 : decode code 7 = .ok (.astore_n 1, 1) := by decide +kernel
theorem d_Law_law_8 : decode code 8 = .ok (.new 10, 3) := by decide +kernel
theorem d_Law_law_11 : decode code 11 = .ok (.dup, 1) := by decide +kernel
theorem d_Law_law_12 : decode code 12 = .ok (.invokespecial 12, 3) := by decide +kernel
theorem d_Law_law_15 : decode code 15 = .ok (.astore_n 2, 1) := by decide +kernel
theorem d_Law_law_16 : decode code 16 = .ok (.iconst 0, 1) := by decide +kernel
theorem d_Law_law_17 : decode code 17 = .ok (.istore_n 3, 1) := by decide +kernel
theorem d_Law_law_18 : decode code 18 = .ok (.iload_n 3, 1) := by decide +kernel
theorem d_Law_law_19 : decode code 19 = .ok (.aload_n 0, 1) := by decide +kernel
theorem d_Law_law_20 : decode code 20 = .ok (.arraylength, 1) := by decide +kernel
theorem d_Law_law_21 : decode code 21 = .ok (.iconst 3, 1) := by decide +kernel
theorem d_Law_law_22 : decode code 22 = .ok (.isub, 1) := by decide +kernel
theorem d_Law_law_23 : decode code 23 = .ok (.if_icmp .gt 354, 3) := by decide +kernel
theorem d_Law_law_26 : decode code 26 = .ok (.aload_n 0, 1) := by decide +kernel
theorem d_Law_law_27 : decode code 27 = .ok (.iload_n 3, 1) := by decide +kernel
theorem d_Law_law_28 : decode code 28 = .ok (.iaload, 1) := by decide +kernel
theorem d_Law_law_29 : decode code 29 = .ok (.bipush 15, 2) := by decide +kernel
theorem d_Law_law_31 : decode code 31 = .ok (.iand, 1) := by decide +kernel
theorem d_Law_law_32 : decode code 32 = .ok (.tableswitch 339 0 14 #[76, 99, 110, 123, 146, 159, 172, 185, 208, 241, 264, 287, 300, 313, 326], 76) := by decide +kernel
theorem d_Law_law_108 : decode code 108 = .ok (.aload_n 1, 1) := by decide +kernel
theorem d_Law_law_109 : decode code 109 = .ok (.aload_n 0, 1) := by decide +kernel
theorem d_Law_law_110 : decode code 110 = .ok (.iload_n 3, 1) := by decide +kernel
theorem d_Law_law_111 : decode code 111 = .ok (.iconst 1, 1) := by decide +kernel
theorem d_Law_law_112 : decode code 112 = .ok (.iadd, 1) := by decide +kernel
theorem d_Law_law_113 : decode code 113 = .ok (.iaload, 1) := by decide +kernel
theorem d_Law_law_114 : decode code 114 = .ok (.invokevirtual 13, 3) := by decide +kernel
theorem d_Law_law_117 : decode code 117 = .ok (.aload_n 2, 1) := by decide +kernel
theorem d_Law_law_118 : decode code 118 = .ok (.aload_n 0, 1) := by decide +kernel
theorem d_Law_law_119 : decode code 119 = .ok (.iload_n 3, 1) := by decide +kernel
theorem d_Law_law_120 : decode code 120 = .ok (.iconst 1, 1) := by decide +kernel
theorem d_Law_law_121 : decode code 121 = .ok (.iadd, 1) := by decide +kernel
theorem d_Law_law_122 : decode code 122 = .ok (.iaload, 1) := by decide +kernel
theorem d_Law_law_123 : decode code 123 = .ok (.invokevirtual 17, 3) := by decide +kernel
theorem d_Law_law_126 : decode code 126 = .ok (.if_icmp .eq 245, 3) := by decide +kernel
theorem d_Law_law_129 : decode code 129 = .ok (.iconst 0, 1) := by decide +kernel
theorem d_Law_law_130 : decode code 130 = .ok (.ireturn, 1) := by decide +kernel
theorem d_Law_law_131 : decode code 131 = .ok (.aload_n 1, 1) := by decide +kernel
theorem d_Law_law_132 : decode code 132 = .ok (.invokevirtual 18, 3) := by decide +kernel
theorem d_Law_law_135 : decode code 135 = .ok (.aload_n 2, 1) := by decide +kernel
theorem d_Law_law_136 : decode code 136 = .ok (.invokevirtual 21, 3) := by decide +kernel
theorem d_Law_law_139 : decode code 139 = .ok (.goto 232, 3) := by decide +kernel
theorem d_Law_law_142 : decode code 142 = .ok (.aload_n 1, 1) := by decide +kernel
theorem d_Law_law_143 : decode code 143 = .ok (.invokevirtual 22, 3) := by decide +kernel
theorem d_Law_law_146 : decode code 146 = .ok (.aload_n 2, 1) := by decide +kernel
theorem d_Law_law_147 : decode code 147 = .ok (.invokevirtual 26, 3) := by decide +kernel
theorem d_Law_law_150 : decode code 150 = .ok (.if_icmp .eq 221, 3) := by decide +kernel
theorem d_Law_law_153 : decode code 153 = .ok (.iconst 0, 1) := by decide +kernel
theorem d_Law_law_154 : decode code 154 = .ok (.ireturn, 1) := by decide +kernel
theorem d_Law_law_155 : decode code 155 = .ok (.aload_n 1, 1) := by decide +kernel
theorem d_Law_law_156 : decode code 156 = .ok (.aload_n 0, 1) := by decide +kernel
theorem d_Law_law_157 : decode code 157 = .ok (.iload_n 3, 1) := by decide +kernel
theorem d_Law_law_158 : decode code 158 = .ok (.iconst 1, 1) := by decide +kernel
theorem d_Law_law_159 : decode code 159 = .ok (.iadd, 1) := by decide +kernel
theorem d_Law_law_160 : decode code 160 = .ok (.iaload, 1) := by decide +kernel
theorem d_Law_law_161 : decode code 161 = .ok (.invokevirtual 27, 3) := by decide +kernel
theorem d_Law_law_164 : decode code 164 = .ok (.aload_n 2, 1) := by decide +kernel
theorem d_Law_law_165 : decode code 165 = .ok (.aload_n 0, 1) := by decide +kernel
theorem d_Law_law_166 : decode code 166 = .ok (.iload_n 3, 1) := by decide +kernel
theorem d_Law_law_167 : decode code 167 = .ok (.iconst 1, 1) := by decide +kernel
theorem d_Law_law_168 : decode code 168 = .ok (.iadd, 1) := by decide +kernel
theorem d_Law_law_169 : decode code 169 = .ok (.iaload, 1) := by decide +kernel
theorem d_Law_law_170 : decode code 170 = .ok (.invokevirtual 31, 3) := by decide +kernel
theorem d_Law_law_173 : decode code 173 = .ok (.if_icmp .eq 198, 3) := by decide +kernel
theorem d_Law_law_176 : decode code 176 = .ok (.iconst 0, 1) := by decide +kernel
theorem d_Law_law_177 : decode code 177 = .ok (.ireturn, 1) := by decide +kernel
theorem d_Law_law_178 : decode code 178 = .ok (.aload_n 1, 1) := by decide +kernel
theorem d_Law_law_179 : decode code 179 = .ok (.invokevirtual 32, 3) := by decide +kernel
theorem d_Law_law_182 : decode code 182 = .ok (.aload_n 2, 1) := by decide +kernel
theorem d_Law_law_183 : decode code 183 = .ok (.invokevirtual 35, 3) := by decide +kernel
theorem d_Law_law_186 : decode code 186 = .ok (.if_icmp .eq 185, 3) := by decide +kernel
theorem d_Law_law_189 : decode code 189 = .ok (.iconst 0, 1) := by decide +kernel
theorem d_Law_law_190 : decode code 190 = .ok (.ireturn, 1) := by decide +kernel
theorem d_Law_law_191 : decode code 191 = .ok (.aload_n 1, 1) := by decide +kernel
theorem d_Law_law_192 : decode code 192 = .ok (.invokevirtual 36, 3) := by decide +kernel
theorem d_Law_law_195 : decode code 195 = .ok (.aload_n 2, 1) := by decide +kernel
theorem d_Law_law_196 : decode code 196 = .ok (.invokevirtual 39, 3) := by decide +kernel
theorem d_Law_law_199 : decode code 199 = .ok (.if_icmp .eq 172, 3) := by decide +kernel
theorem d_Law_law_202 : decode code 202 = .ok (.iconst 0, 1) := by decide +kernel
theorem d_Law_law_203 : decode code 203 = .ok (.ireturn, 1) := by decide +kernel
theorem d_Law_law_204 : decode code 204 = .ok (.aload_n 1, 1) := by decide +kernel
theorem d_Law_law_205 : decode code 205 = .ok (.invokevirtual 40, 3) := by decide +kernel
theorem d_Law_law_208 : decode code 208 = .ok (.aload_n 2, 1) := by decide +kernel
theorem d_Law_law_209 : decode code 209 = .ok (.invokevirtual 43, 3) := by decide +kernel
theorem d_Law_law_212 : decode code 212 = .ok (.if_icmp .eq 159, 3) := by decide +kernel
theorem d_Law_law_215 : decode code 215 = .ok (.iconst 0, 1) := by decide +kernel
theorem d_Law_law_216 : decode code 216 = .ok (.ireturn, 1) := by decide +kernel
theorem d_Law_law_217 : decode code 217 = .ok (.aload_n 1, 1) := by decide +kernel
theorem d_Law_law_218 : decode code 218 = .ok (.aload_n 0, 1) := by decide +kernel
theorem d_Law_law_219 : decode code 219 = .ok (.iload_n 3, 1) := by decide +kernel
theorem d_Law_law_220 : decode code 220 = .ok (.iconst 1, 1) := by decide +kernel
theorem d_Law_law_221 : decode code 221 = .ok (.iadd, 1) := by decide +kernel
theorem d_Law_law_222 : decode code 222 = .ok (.iaload, 1) := by decide +kernel
theorem d_Law_law_223 : decode code 223 = .ok (.invokevirtual 44, 3) := by decide +kernel
theorem d_Law_law_226 : decode code 226 = .ok (.aload_n 2, 1) := by decide +kernel
theorem d_Law_law_227 : decode code 227 = .ok (.aload_n 0, 1) := by decide +kernel
theorem d_Law_law_228 : decode code 228 = .ok (.iload_n 3, 1) := by decide +kernel
theorem d_Law_law_229 : decode code 229 = .ok (.iconst 1, 1) := by decide +kernel
theorem d_Law_law_230 : decode code 230 = .ok (.iadd, 1) := by decide +kernel
theorem d_Law_law_231 : decode code 231 = .ok (.iaload, 1) := by decide +kernel
theorem d_Law_law_232 : decode code 232 = .ok (.invokevirtual 47, 3) := by decide +kernel
theorem d_Law_law_235 : decode code 235 = .ok (.if_icmp .eq 136, 3) := by decide +kernel
theorem d_Law_law_238 : decode code 238 = .ok (.iconst 0, 1) := by decide +kernel
theorem d_Law_law_239 : decode code 239 = .ok (.ireturn, 1) := by decide +kernel
theorem d_Law_law_240 : decode code 240 = .ok (.aload_n 1, 1) := by decide +kernel
theorem d_Law_law_241 : decode code 241 = .ok (.aload_n 0, 1) := by decide +kernel
theorem d_Law_law_242 : decode code 242 = .ok (.iload_n 3, 1) := by decide +kernel
theorem d_Law_law_243 : decode code 243 = .ok (.iconst 1, 1) := by decide +kernel
theorem d_Law_law_244 : decode code 244 = .ok (.iadd, 1) := by decide +kernel
theorem d_Law_law_245 : decode code 245 = .ok (.iaload, 1) := by decide +kernel
theorem d_Law_law_246 : decode code 246 = .ok (.aload_n 0, 1) := by decide +kernel
theorem d_Law_law_247 : decode code 247 = .ok (.iload_n 3, 1) := by decide +kernel
theorem d_Law_law_248 : decode code 248 = .ok (.iconst 2, 1) := by decide +kernel
theorem d_Law_law_249 : decode code 249 = .ok (.iadd, 1) := by decide +kernel
theorem d_Law_law_250 : decode code 250 = .ok (.iaload, 1) := by decide +kernel
theorem d_Law_law_251 : decode code 251 = .ok (.invokevirtual 48, 3) := by decide +kernel
theorem d_Law_law_254 : decode code 254 = .ok (.aload_n 2, 1) := by decide +kernel
theorem d_Law_law_255 : decode code 255 = .ok (.aload_n 0, 1) := by decide +kernel
theorem d_Law_law_256 : decode code 256 = .ok (.iload_n 3, 1) := by decide +kernel
theorem d_Law_law_257 : decode code 257 = .ok (.iconst 1, 1) := by decide +kernel
theorem d_Law_law_258 : decode code 258 = .ok (.iadd, 1) := by decide +kernel
theorem d_Law_law_259 : decode code 259 = .ok (.iaload, 1) := by decide +kernel
theorem d_Law_law_260 : decode code 260 = .ok (.aload_n 0, 1) := by decide +kernel
theorem d_Law_law_261 : decode code 261 = .ok (.iload_n 3, 1) := by decide +kernel
theorem d_Law_law_262 : decode code 262 = .ok (.iconst 2, 1) := by decide +kernel
theorem d_Law_law_263 : decode code 263 = .ok (.iadd, 1) := by decide +kernel
theorem d_Law_law_264 : decode code 264 = .ok (.iaload, 1) := by decide +kernel
theorem d_Law_law_265 : decode code 265 = .ok (.invokevirtual 52, 3) := by decide +kernel
theorem d_Law_law_268 : decode code 268 = .ok (.if_icmp .eq 103, 3) := by decide +kernel
theorem d_Law_law_271 : decode code 271 = .ok (.iconst 0, 1) := by decide +kernel
theorem d_Law_law_272 : decode code 272 = .ok (.ireturn, 1) := by decide +kernel
theorem d_Law_law_273 : decode code 273 = .ok (.aload_n 1, 1) := by decide +kernel
theorem d_Law_law_274 : decode code 274 = .ok (.aload_n 0, 1) := by decide +kernel
theorem d_Law_law_275 : decode code 275 = .ok (.iload_n 3, 1) := by decide +kernel
theorem d_Law_law_276 : decode code 276 = .ok (.iconst 1, 1) := by decide +kernel
theorem d_Law_law_277 : decode code 277 = .ok (.iadd, 1) := by decide +kernel
theorem d_Law_law_278 : decode code 278 = .ok (.iaload, 1) := by decide +kernel
theorem d_Law_law_279 : decode code 279 = .ok (.invokevirtual 53, 3) := by decide +kernel
theorem d_Law_law_282 : decode code 282 = .ok (.aload_n 2, 1) := by decide +kernel
theorem d_Law_law_283 : decode code 283 = .ok (.aload_n 0, 1) := by decide +kernel
theorem d_Law_law_284 : decode code 284 = .ok (.iload_n 3, 1) := by decide +kernel
theorem d_Law_law_285 : decode code 285 = .ok (.iconst 1, 1) := by decide +kernel
theorem d_Law_law_286 : decode code 286 = .ok (.iadd, 1) := by decide +kernel
theorem d_Law_law_287 : decode code 287 = .ok (.iaload, 1) := by decide +kernel
theorem d_Law_law_288 : decode code 288 = .ok (.invokevirtual 56, 3) := by decide +kernel
theorem d_Law_law_291 : decode code 291 = .ok (.if_icmp .eq 80, 3) := by decide +kernel
theorem d_Law_law_294 : decode code 294 = .ok (.iconst 0, 1) := by decide +kernel
theorem d_Law_law_295 : decode code 295 = .ok (.ireturn, 1) := by decide +kernel
theorem d_Law_law_296 : decode code 296 = .ok (.aload_n 1, 1) := by decide +kernel
theorem d_Law_law_297 : decode code 297 = .ok (.aload_n 0, 1) := by decide +kernel
theorem d_Law_law_298 : decode code 298 = .ok (.iload_n 3, 1) := by decide +kernel
theorem d_Law_law_299 : decode code 299 = .ok (.iconst 1, 1) := by decide +kernel
theorem d_Law_law_300 : decode code 300 = .ok (.iadd, 1) := by decide +kernel
theorem d_Law_law_301 : decode code 301 = .ok (.iaload, 1) := by decide +kernel
theorem d_Law_law_302 : decode code 302 = .ok (.invokevirtual 57, 3) := by decide +kernel
theorem d_Law_law_305 : decode code 305 = .ok (.aload_n 2, 1) := by decide +kernel
theorem d_Law_law_306 : decode code 306 = .ok (.aload_n 0, 1) := by decide +kernel
theorem d_Law_law_307 : decode code 307 = .ok (.iload_n 3, 1) := by decide +kernel
theorem d_Law_law_308 : decode code 308 = .ok (.iconst 1, 1) := by decide +kernel
theorem d_Law_law_309 : decode code 309 = .ok (.iadd, 1) := by decide +kernel
theorem d_Law_law_310 : decode code 310 = .ok (.iaload, 1) := by decide +kernel
theorem d_Law_law_311 : decode code 311 = .ok (.invokevirtual 60, 3) := by decide +kernel
theorem d_Law_law_314 : decode code 314 = .ok (.if_icmp .eq 57, 3) := by decide +kernel
theorem d_Law_law_317 : decode code 317 = .ok (.iconst 0, 1) := by decide +kernel
theorem d_Law_law_318 : decode code 318 = .ok (.ireturn, 1) := by decide +kernel
theorem d_Law_law_319 : decode code 319 = .ok (.aload_n 1, 1) := by decide +kernel
theorem d_Law_law_320 : decode code 320 = .ok (.invokevirtual 61, 3) := by decide +kernel
theorem d_Law_law_323 : decode code 323 = .ok (.aload_n 2, 1) := by decide +kernel
theorem d_Law_law_324 : decode code 324 = .ok (.invokevirtual 64, 3) := by decide +kernel
theorem d_Law_law_327 : decode code 327 = .ok (.if_icmp .eq 44, 3) := by decide +kernel
theorem d_Law_law_330 : decode code 330 = .ok (.iconst 0, 1) := by decide +kernel
theorem d_Law_law_331 : decode code 331 = .ok (.ireturn, 1) := by decide +kernel
theorem d_Law_law_332 : decode code 332 = .ok (.aload_n 1, 1) := by decide +kernel
theorem d_Law_law_333 : decode code 333 = .ok (.invokevirtual 65, 3) := by decide +kernel
theorem d_Law_law_336 : decode code 336 = .ok (.aload_n 2, 1) := by decide +kernel
theorem d_Law_law_337 : decode code 337 = .ok (.invokevirtual 68, 3) := by decide +kernel
theorem d_Law_law_340 : decode code 340 = .ok (.if_icmp .eq 31, 3) := by decide +kernel
theorem d_Law_law_343 : decode code 343 = .ok (.iconst 0, 1) := by decide +kernel
theorem d_Law_law_344 : decode code 344 = .ok (.ireturn, 1) := by decide +kernel
theorem d_Law_law_345 : decode code 345 = .ok (.aload_n 1, 1) := by decide +kernel
theorem d_Law_law_346 : decode code 346 = .ok (.invokevirtual 69, 3) := by decide +kernel
theorem d_Law_law_349 : decode code 349 = .ok (.aload_n 2, 1) := by decide +kernel
theorem d_Law_law_350 : decode code 350 = .ok (.invokevirtual 72, 3) := by decide +kernel
theorem d_Law_law_353 : decode code 353 = .ok (.if_icmp .eq 18, 3) := by decide +kernel
theorem d_Law_law_356 : decode code 356 = .ok (.iconst 0, 1) := by decide +kernel
theorem d_Law_law_357 : decode code 357 = .ok (.ireturn, 1) := by decide +kernel
theorem d_Law_law_358 : decode code 358 = .ok (.aload_n 1, 1) := by decide +kernel
theorem d_Law_law_359 : decode code 359 = .ok (.invokevirtual 73, 3) := by decide +kernel
theorem d_Law_law_362 : decode code 362 = .ok (.aload_n 2, 1) := by decide +kernel
theorem d_Law_law_363 : decode code 363 = .ok (.invokevirtual 76, 3) := by decide +kernel
theorem d_Law_law_366 : decode code 366 = .ok (.if_icmp .eq 5, 3) := by decide +kernel
theorem d_Law_law_369 : decode code 369 = .ok (.iconst 0, 1) := by decide +kernel
theorem d_Law_law_370 : decode code 370 = .ok (.ireturn, 1) := by decide +kernel
theorem d_Law_law_371 : decode code 371 = .ok (.iinc 3 3, 3) := by decide +kernel
theorem d_Law_law_374 : decode code 374 = .ok (.goto (-356), 3) := by decide +kernel
theorem d_Law_law_377 : decode code 377 = .ok (.iconst 1, 1) := by decide +kernel
theorem d_Law_law_378 : decode code 378 = .ok (.ireturn, 1) := by decide +kernel

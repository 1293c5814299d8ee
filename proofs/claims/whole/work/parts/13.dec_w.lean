/-! DECODE ROWS (by program) -/
theorem d_W_output_0 : decode b_W_output 0 = .ok (.aload_n 3, 1) := by decide +kernel
theorem d_W_output_1 : decode b_W_output 1 = .ok (.iconst 0, 1) := by decide +kernel
theorem d_W_output_2 : decode b_W_output 2 = .ok (.aload_n 0, 1) := by decide +kernel
theorem d_W_output_3 : decode b_W_output 3 = .ok (.iload_n 1, 1) := by decide +kernel
theorem d_W_output_4 : decode b_W_output 4 = .ok (.iload_n 2, 1) := by decide +kernel
theorem d_W_output_5 : decode b_W_output 5 = .ok (.invokevirtual 7, 3) := by decide +kernel
theorem d_W_output_8 : decode b_W_output 8 = .ok (.lastore, 1) := by decide +kernel
theorem d_W_output_9 : decode b_W_output 9 = .ok (.goto 11, 3) := by decide +kernel
theorem d_W_output_12 : decode b_W_output 12 = .ok (.astore 4, 2) := by decide +kernel
theorem d_W_output_14 : decode b_W_output 14 = .ok (.iconst 1, 1) := by decide +kernel
theorem d_W_output_15 : decode b_W_output 15 = .ok (.ireturn, 1) := by decide +kernel
theorem d_W_output_16 : decode b_W_output 16 = .ok (.astore 4, 2) := by decide +kernel
theorem d_W_output_18 : decode b_W_output 18 = .ok (.iconst 2, 1) := by decide +kernel
theorem d_W_output_19 : decode b_W_output 19 = .ok (.ireturn, 1) := by decide +kernel
theorem d_W_output_20 : decode b_W_output 20 = .ok (.iconst 0, 1) := by decide +kernel
theorem d_W_output_21 : decode b_W_output 21 = .ok (.ireturn, 1) := by decide +kernel
theorem d_W_share_0 : decode b_W_share 0 = .ok (.aload_n 1, 1) := by decide +kernel
theorem d_W_share_1 : decode b_W_share 1 = .ok (.iconst 0, 1) := by decide +kernel
theorem d_W_share_2 : decode b_W_share 2 = .ok (.aload_n 0, 1) := by decide +kernel
theorem d_W_share_3 : decode b_W_share 3 = .ok (.invokevirtual 17, 3) := by decide +kernel
theorem d_W_share_6 : decode b_W_share 6 = .ok (.i2l, 1) := by decide +kernel
theorem d_W_share_7 : decode b_W_share 7 = .ok (.lastore, 1) := by decide +kernel
theorem d_W_share_8 : decode b_W_share 8 = .ok (.goto 6, 3) := by decide +kernel
theorem d_W_share_11 : decode b_W_share 11 = .ok (.astore_n 2, 1) := by decide +kernel
theorem d_W_share_12 : decode b_W_share 12 = .ok (.iconst 1, 1) := by decide +kernel
theorem d_W_share_13 : decode b_W_share 13 = .ok (.ireturn, 1) := by decide +kernel
theorem d_W_share_14 : decode b_W_share 14 = .ok (.iconst 0, 1) := by decide +kernel
theorem d_W_share_15 : decode b_W_share 15 = .ok (.ireturn, 1) := by decide +kernel
theorem d_W_law_0 : decode b_W_law 0 = .ok (.new 8, 3) := by decide +kernel
theorem d_W_law_3 : decode b_W_law 3 = .ok (.dup, 1) := by decide +kernel
theorem d_W_law_4 : decode b_W_law 4 = .ok (.invokespecial 23, 3) := by decide +kernel
theorem d_W_law_7 : decode b_W_law 7 = .ok (.astore_n 1, 1) := by decide +kernel
theorem d_W_law_8 : decode b_W_law 8 = .ok (.new 24, 3) := by decide +kernel
theorem d_W_law_11 : decode b_W_law 11 = .ok (.dup, 1) := by decide +kernel
theorem d_W_law_12 : decode b_W_law 12 = .ok (.invokespecial 26, 3) := by decide +kernel
theorem d_W_law_15 : decode b_W_law 15 = .ok (.astore_n 2, 1) := by decide +kernel
theorem d_W_law_16 : decode b_W_law 16 = .ok (.iconst 1, 1) := by decide +kernel
theorem d_W_law_17 : decode b_W_law 17 = .ok (.newarray .long, 2) := by decide +kernel
theorem d_W_law_19 : decode b_W_law 19 = .ok (.astore_n 3, 1) := by decide +kernel
theorem d_W_law_20 : decode b_W_law 20 = .ok (.iconst 0, 1) := by decide +kernel
theorem d_W_law_21 : decode b_W_law 21 = .ok (.istore 4, 2) := by decide +kernel
theorem d_W_law_23 : decode b_W_law 23 = .ok (.iload 4, 2) := by decide +kernel
theorem d_W_law_25 : decode b_W_law 25 = .ok (.aload_n 0, 1) := by decide +kernel
theorem d_W_law_26 : decode b_W_law 26 = .ok (.arraylength, 1) := by decide +kernel
theorem d_W_law_27 : decode b_W_law 27 = .ok (.iconst 5, 1) := by decide +kernel
theorem d_W_law_28 : decode b_W_law 28 = .ok (.isub, 1) := by decide +kernel
theorem d_W_law_29 : decode b_W_law 29 = .ok (.if_icmp .gt 836, 3) := by decide +kernel
theorem d_W_law_32 : decode b_W_law 32 = .ok (.aload_n 0, 1) := by decide +kernel
theorem d_W_law_33 : decode b_W_law 33 = .ok (.iload 4, 2) := by decide +kernel
theorem d_W_law_35 : decode b_W_law 35 = .ok (.iaload, 1) := by decide +kernel
theorem d_W_law_36 : decode b_W_law 36 = .ok (.bipush 31, 2) := by decide +kernel
theorem d_W_law_38 : decode b_W_law 38 = .ok (.iand, 1) := by decide +kernel
theorem d_W_law_120 : decode b_W_law 120 = .ok (.aload_n 1, 1) := by decide +kernel
theorem d_W_law_121 : decode b_W_law 121 = .ok (.aload_n 0, 1) := by decide +kernel
theorem d_W_law_122 : decode b_W_law 122 = .ok (.iload 4, 2) := by decide +kernel
theorem d_W_law_124 : decode b_W_law 124 = .ok (.iconst 1, 1) := by decide +kernel
theorem d_W_law_125 : decode b_W_law 125 = .ok (.iadd, 1) := by decide +kernel
theorem d_W_law_126 : decode b_W_law 126 = .ok (.iaload, 1) := by decide +kernel
theorem d_W_law_127 : decode b_W_law 127 = .ok (.i2l, 1) := by decide +kernel
theorem d_W_law_128 : decode b_W_law 128 = .ok (.bipush 32, 2) := by decide +kernel
theorem d_W_law_130 : decode b_W_law 130 = .ok (.lshl, 1) := by decide +kernel
theorem d_W_law_131 : decode b_W_law 131 = .ok (.aload_n 0, 1) := by decide +kernel
theorem d_W_law_132 : decode b_W_law 132 = .ok (.iload 4, 2) := by decide +kernel
theorem d_W_law_134 : decode b_W_law 134 = .ok (.iconst 2, 1) := by decide +kernel
theorem d_W_law_135 : decode b_W_law 135 = .ok (.iadd, 1) := by decide +kernel
theorem d_W_law_136 : decode b_W_law 136 = .ok (.iaload, 1) := by decide +kernel
theorem d_W_law_137 : decode b_W_law 137 = .ok (.i2l, 1) := by decide +kernel
theorem d_W_law_138 : decode b_W_law 138 = .ok (.ldc2_w 27, 3) := by decide +kernel
theorem d_W_law_141 : decode b_W_law 141 = .ok (.land, 1) := by decide +kernel
theorem d_W_law_142 : decode b_W_law 142 = .ok (.lor, 1) := by decide +kernel
theorem d_W_law_143 : decode b_W_law 143 = .ok (.invokevirtual 29, 3) := by decide +kernel
theorem d_W_law_146 : decode b_W_law 146 = .ok (.aload_n 2, 1) := by decide +kernel
theorem d_W_law_147 : decode b_W_law 147 = .ok (.aload_n 0, 1) := by decide +kernel
theorem d_W_law_148 : decode b_W_law 148 = .ok (.iload 4, 2) := by decide +kernel
theorem d_W_law_150 : decode b_W_law 150 = .ok (.iconst 1, 1) := by decide +kernel
theorem d_W_law_151 : decode b_W_law 151 = .ok (.iadd, 1) := by decide +kernel
theorem d_W_law_152 : decode b_W_law 152 = .ok (.iaload, 1) := by decide +kernel
theorem d_W_law_153 : decode b_W_law 153 = .ok (.i2l, 1) := by decide +kernel
theorem d_W_law_154 : decode b_W_law 154 = .ok (.bipush 32, 2) := by decide +kernel
theorem d_W_law_156 : decode b_W_law 156 = .ok (.lshl, 1) := by decide +kernel
theorem d_W_law_157 : decode b_W_law 157 = .ok (.aload_n 0, 1) := by decide +kernel
theorem d_W_law_158 : decode b_W_law 158 = .ok (.iload 4, 2) := by decide +kernel
theorem d_W_law_160 : decode b_W_law 160 = .ok (.iconst 2, 1) := by decide +kernel
theorem d_W_law_161 : decode b_W_law 161 = .ok (.iadd, 1) := by decide +kernel
theorem d_W_law_162 : decode b_W_law 162 = .ok (.iaload, 1) := by decide +kernel
theorem d_W_law_163 : decode b_W_law 163 = .ok (.i2l, 1) := by decide +kernel
theorem d_W_law_164 : decode b_W_law 164 = .ok (.ldc2_w 27, 3) := by decide +kernel
theorem d_W_law_167 : decode b_W_law 167 = .ok (.land, 1) := by decide +kernel
theorem d_W_law_168 : decode b_W_law 168 = .ok (.lor, 1) := by decide +kernel
theorem d_W_law_169 : decode b_W_law 169 = .ok (.invokevirtual 33, 3) := by decide +kernel
theorem d_W_law_172 : decode b_W_law 172 = .ok (.if_icmp .eq 687, 3) := by decide +kernel
theorem d_W_law_175 : decode b_W_law 175 = .ok (.iconst 0, 1) := by decide +kernel
theorem d_W_law_176 : decode b_W_law 176 = .ok (.ireturn, 1) := by decide +kernel
theorem d_W_law_177 : decode b_W_law 177 = .ok (.aload_n 1, 1) := by decide +kernel
theorem d_W_law_178 : decode b_W_law 178 = .ok (.aload_n 0, 1) := by decide +kernel
theorem d_W_law_179 : decode b_W_law 179 = .ok (.iload 4, 2) := by decide +kernel
theorem d_W_law_181 : decode b_W_law 181 = .ok (.iconst 1, 1) := by decide +kernel
theorem d_W_law_182 : decode b_W_law 182 = .ok (.iadd, 1) := by decide +kernel
theorem d_W_law_183 : decode b_W_law 183 = .ok (.iaload, 1) := by decide +kernel
theorem d_W_law_184 : decode b_W_law 184 = .ok (.aload_n 0, 1) := by decide +kernel
theorem d_W_law_185 : decode b_W_law 185 = .ok (.iload 4, 2) := by decide +kernel
theorem d_W_law_187 : decode b_W_law 187 = .ok (.iconst 2, 1) := by decide +kernel
theorem d_W_law_188 : decode b_W_law 188 = .ok (.iadd, 1) := by decide +kernel
theorem d_W_law_189 : decode b_W_law 189 = .ok (.iaload, 1) := by decide +kernel
theorem d_W_law_190 : decode b_W_law 190 = .ok (.ifCond .eq 7, 3) := by decide +kernel
theorem d_W_law_193 : decode b_W_law 193 = .ok (.iconst 1, 1) := by decide +kernel
theorem d_W_law_194 : decode b_W_law 194 = .ok (.goto 4, 3) := by decide +kernel
theorem d_W_law_197 : decode b_W_law 197 = .ok (.iconst 0, 1) := by decide +kernel
theorem d_W_law_198 : decode b_W_law 198 = .ok (.aload_n 0, 1) := by decide +kernel
theorem d_W_law_199 : decode b_W_law 199 = .ok (.iload 4, 2) := by decide +kernel
theorem d_W_law_201 : decode b_W_law 201 = .ok (.iconst 3, 1) := by decide +kernel
theorem d_W_law_202 : decode b_W_law 202 = .ok (.iadd, 1) := by decide +kernel
theorem d_W_law_203 : decode b_W_law 203 = .ok (.iaload, 1) := by decide +kernel
theorem d_W_law_204 : decode b_W_law 204 = .ok (.i2l, 1) := by decide +kernel
theorem d_W_law_205 : decode b_W_law 205 = .ok (.bipush 32, 2) := by decide +kernel
theorem d_W_law_207 : decode b_W_law 207 = .ok (.lshl, 1) := by decide +kernel
theorem d_W_law_208 : decode b_W_law 208 = .ok (.aload_n 0, 1) := by decide +kernel
theorem d_W_law_209 : decode b_W_law 209 = .ok (.iload 4, 2) := by decide +kernel
theorem d_W_law_211 : decode b_W_law 211 = .ok (.iconst 4, 1) := by decide +kernel
theorem d_W_law_212 : decode b_W_law 212 = .ok (.iadd, 1) := by decide +kernel
theorem d_W_law_213 : decode b_W_law 213 = .ok (.iaload, 1) := by decide +kernel
theorem d_W_law_214 : decode b_W_law 214 = .ok (.i2l, 1) := by decide +kernel
theorem d_W_law_215 : decode b_W_law 215 = .ok (.ldc2_w 27, 3) := by decide +kernel
theorem d_W_law_218 : decode b_W_law 218 = .ok (.land, 1) := by decide +kernel
theorem d_W_law_219 : decode b_W_law 219 = .ok (.lor, 1) := by decide +kernel
theorem d_W_law_220 : decode b_W_law 220 = .ok (.invokevirtual 34, 3) := by decide +kernel
theorem d_W_law_223 : decode b_W_law 223 = .ok (.aload_n 2, 1) := by decide +kernel
theorem d_W_law_224 : decode b_W_law 224 = .ok (.aload_n 0, 1) := by decide +kernel
theorem d_W_law_225 : decode b_W_law 225 = .ok (.iload 4, 2) := by decide +kernel
theorem d_W_law_227 : decode b_W_law 227 = .ok (.iconst 1, 1) := by decide +kernel
theorem d_W_law_228 : decode b_W_law 228 = .ok (.iadd, 1) := by decide +kernel
theorem d_W_law_229 : decode b_W_law 229 = .ok (.iaload, 1) := by decide +kernel
theorem d_W_law_230 : decode b_W_law 230 = .ok (.aload_n 0, 1) := by decide +kernel
theorem d_W_law_231 : decode b_W_law 231 = .ok (.iload 4, 2) := by decide +kernel
theorem d_W_law_233 : decode b_W_law 233 = .ok (.iconst 2, 1) := by decide +kernel
theorem d_W_law_234 : decode b_W_law 234 = .ok (.iadd, 1) := by decide +kernel
theorem d_W_law_235 : decode b_W_law 235 = .ok (.iaload, 1) := by decide +kernel
theorem d_W_law_236 : decode b_W_law 236 = .ok (.ifCond .eq 7, 3) := by decide +kernel
theorem d_W_law_239 : decode b_W_law 239 = .ok (.iconst 1, 1) := by decide +kernel
theorem d_W_law_240 : decode b_W_law 240 = .ok (.goto 4, 3) := by decide +kernel
theorem d_W_law_243 : decode b_W_law 243 = .ok (.iconst 0, 1) := by decide +kernel
theorem d_W_law_244 : decode b_W_law 244 = .ok (.aload_n 0, 1) := by decide +kernel
theorem d_W_law_245 : decode b_W_law 245 = .ok (.iload 4, 2) := by decide +kernel
theorem d_W_law_247 : decode b_W_law 247 = .ok (.iconst 3, 1) := by decide +kernel
theorem d_W_law_248 : decode b_W_law 248 = .ok (.iadd, 1) := by decide +kernel
theorem d_W_law_249 : decode b_W_law 249 = .ok (.iaload, 1) := by decide +kernel
theorem d_W_law_250 : decode b_W_law 250 = .ok (.i2l, 1) := by decide +kernel
theorem d_W_law_251 : decode b_W_law 251 = .ok (.bipush 32, 2) := by decide +kernel
theorem d_W_law_253 : decode b_W_law 253 = .ok (.lshl, 1) := by decide +kernel
theorem d_W_law_254 : decode b_W_law 254 = .ok (.aload_n 0, 1) := by decide +kernel
theorem d_W_law_255 : decode b_W_law 255 = .ok (.iload 4, 2) := by decide +kernel
theorem d_W_law_257 : decode b_W_law 257 = .ok (.iconst 4, 1) := by decide +kernel
theorem d_W_law_258 : decode b_W_law 258 = .ok (.iadd, 1) := by decide +kernel
theorem d_W_law_259 : decode b_W_law 259 = .ok (.iaload, 1) := by decide +kernel
theorem d_W_law_260 : decode b_W_law 260 = .ok (.i2l, 1) := by decide +kernel
theorem d_W_law_261 : decode b_W_law 261 = .ok (.ldc2_w 27, 3) := by decide +kernel
theorem d_W_law_264 : decode b_W_law 264 = .ok (.land, 1) := by decide +kernel
theorem d_W_law_265 : decode b_W_law 265 = .ok (.lor, 1) := by decide +kernel
theorem d_W_law_266 : decode b_W_law 266 = .ok (.invokevirtual 38, 3) := by decide +kernel
theorem d_W_law_269 : decode b_W_law 269 = .ok (.if_icmp .eq 590, 3) := by decide +kernel
theorem d_W_law_272 : decode b_W_law 272 = .ok (.iconst 0, 1) := by decide +kernel
theorem d_W_law_273 : decode b_W_law 273 = .ok (.ireturn, 1) := by decide +kernel
theorem d_W_law_274 : decode b_W_law 274 = .ok (.aload_n 1, 1) := by decide +kernel
theorem d_W_law_275 : decode b_W_law 275 = .ok (.aload_n 0, 1) := by decide +kernel
theorem d_W_law_276 : decode b_W_law 276 = .ok (.iload 4, 2) := by decide +kernel
theorem d_W_law_278 : decode b_W_law 278 = .ok (.iconst 1, 1) := by decide +kernel
theorem d_W_law_279 : decode b_W_law 279 = .ok (.iadd, 1) := by decide +kernel
theorem d_W_law_280 : decode b_W_law 280 = .ok (.iaload, 1) := by decide +kernel
theorem d_W_law_281 : decode b_W_law 281 = .ok (.invokevirtual 39, 3) := by decide +kernel
theorem d_W_law_284 : decode b_W_law 284 = .ok (.aload_n 2, 1) := by decide +kernel
theorem d_W_law_285 : decode b_W_law 285 = .ok (.aload_n 0, 1) := by decide +kernel
theorem d_W_law_286 : decode b_W_law 286 = .ok (.iload 4, 2) := by decide +kernel
theorem d_W_law_288 : decode b_W_law 288 = .ok (.iconst 1, 1) := by decide +kernel
theorem d_W_law_289 : decode b_W_law 289 = .ok (.iadd, 1) := by decide +kernel
theorem d_W_law_290 : decode b_W_law 290 = .ok (.iaload, 1) := by decide +kernel
theorem d_W_law_291 : decode b_W_law 291 = .ok (.invokevirtual 43, 3) := by decide +kernel
theorem d_W_law_294 : decode b_W_law 294 = .ok (.if_icmp .eq 565, 3) := by decide +kernel
theorem d_W_law_297 : decode b_W_law 297 = .ok (.iconst 0, 1) := by decide +kernel
theorem d_W_law_298 : decode b_W_law 298 = .ok (.ireturn, 1) := by decide +kernel
theorem d_W_law_299 : decode b_W_law 299 = .ok (.aload_n 1, 1) := by decide +kernel
theorem d_W_law_300 : decode b_W_law 300 = .ok (.aload_n 0, 1) := by decide +kernel
theorem d_W_law_301 : decode b_W_law 301 = .ok (.iload 4, 2) := by decide +kernel
theorem d_W_law_303 : decode b_W_law 303 = .ok (.iconst 1, 1) := by decide +kernel
theorem d_W_law_304 : decode b_W_law 304 = .ok (.iadd, 1) := by decide +kernel
theorem d_W_law_305 : decode b_W_law 305 = .ok (.iaload, 1) := by decide +kernel
theorem d_W_law_306 : decode b_W_law 306 = .ok (.i2l, 1) := by decide +kernel
theorem d_W_law_307 : decode b_W_law 307 = .ok (.bipush 32, 2) := by decide +kernel
theorem d_W_law_309 : decode b_W_law 309 = .ok (.lshl, 1) := by decide +kernel
theorem d_W_law_310 : decode b_W_law 310 = .ok (.aload_n 0, 1) := by decide +kernel
theorem d_W_law_311 : decode b_W_law 311 = .ok (.iload 4, 2) := by decide +kernel
theorem d_W_law_313 : decode b_W_law 313 = .ok (.iconst 2, 1) := by decide +kernel
theorem d_W_law_314 : decode b_W_law 314 = .ok (.iadd, 1) := by decide +kernel
theorem d_W_law_315 : decode b_W_law 315 = .ok (.iaload, 1) := by decide +kernel
theorem d_W_law_316 : decode b_W_law 316 = .ok (.i2l, 1) := by decide +kernel
theorem d_W_law_317 : decode b_W_law 317 = .ok (.ldc2_w 27, 3) := by decide +kernel
theorem d_W_law_320 : decode b_W_law 320 = .ok (.land, 1) := by decide +kernel
theorem d_W_law_321 : decode b_W_law 321 = .ok (.lor, 1) := by decide +kernel
theorem d_W_law_322 : decode b_W_law 322 = .ok (.aload_n 0, 1) := by decide +kernel
theorem d_W_law_323 : decode b_W_law 323 = .ok (.iload 4, 2) := by decide +kernel
theorem d_W_law_325 : decode b_W_law 325 = .ok (.iconst 3, 1) := by decide +kernel
theorem d_W_law_326 : decode b_W_law 326 = .ok (.iadd, 1) := by decide +kernel
theorem d_W_law_327 : decode b_W_law 327 = .ok (.iaload, 1) := by decide +kernel
theorem d_W_law_328 : decode b_W_law 328 = .ok (.i2l, 1) := by decide +kernel
theorem d_W_law_329 : decode b_W_law 329 = .ok (.bipush 32, 2) := by decide +kernel
theorem d_W_law_331 : decode b_W_law 331 = .ok (.lshl, 1) := by decide +kernel
theorem d_W_law_332 : decode b_W_law 332 = .ok (.aload_n 0, 1) := by decide +kernel
theorem d_W_law_333 : decode b_W_law 333 = .ok (.iload 4, 2) := by decide +kernel
theorem d_W_law_335 : decode b_W_law 335 = .ok (.iconst 4, 1) := by decide +kernel
theorem d_W_law_336 : decode b_W_law 336 = .ok (.iadd, 1) := by decide +kernel
theorem d_W_law_337 : decode b_W_law 337 = .ok (.iaload, 1) := by decide +kernel
theorem d_W_law_338 : decode b_W_law 338 = .ok (.i2l, 1) := by decide +kernel
theorem d_W_law_339 : decode b_W_law 339 = .ok (.ldc2_w 27, 3) := by decide +kernel
theorem d_W_law_342 : decode b_W_law 342 = .ok (.land, 1) := by decide +kernel
theorem d_W_law_343 : decode b_W_law 343 = .ok (.lor, 1) := by decide +kernel
theorem d_W_law_344 : decode b_W_law 344 = .ok (.invokevirtual 44, 3) := by decide +kernel
theorem d_W_law_347 : decode b_W_law 347 = .ok (.aload_n 2, 1) := by decide +kernel
theorem d_W_law_348 : decode b_W_law 348 = .ok (.aload_n 0, 1) := by decide +kernel
theorem d_W_law_349 : decode b_W_law 349 = .ok (.iload 4, 2) := by decide +kernel
theorem d_W_law_351 : decode b_W_law 351 = .ok (.iconst 1, 1) := by decide +kernel
theorem d_W_law_352 : decode b_W_law 352 = .ok (.iadd, 1) := by decide +kernel
theorem d_W_law_353 : decode b_W_law 353 = .ok (.iaload, 1) := by decide +kernel
theorem d_W_law_354 : decode b_W_law 354 = .ok (.i2l, 1) := by decide +kernel
theorem d_W_law_355 : decode b_W_law 355 = .ok (.bipush 32, 2) := by decide +kernel
theorem d_W_law_357 : decode b_W_law 357 = .ok (.lshl, 1) := by decide +kernel
theorem d_W_law_358 : decode b_W_law 358 = .ok (.aload_n 0, 1) := by decide +kernel
theorem d_W_law_359 : decode b_W_law 359 = .ok (.iload 4, 2) := by decide +kernel
theorem d_W_law_361 : decode b_W_law 361 = .ok (.iconst 2, 1) := by decide +kernel
theorem d_W_law_362 : decode b_W_law 362 = .ok (.iadd, 1) := by decide +kernel
theorem d_W_law_363 : decode b_W_law 363 = .ok (.iaload, 1) := by decide +kernel
theorem d_W_law_364 : decode b_W_law 364 = .ok (.i2l, 1) := by decide +kernel
theorem d_W_law_365 : decode b_W_law 365 = .ok (.ldc2_w 27, 3) := by decide +kernel
theorem d_W_law_368 : decode b_W_law 368 = .ok (.land, 1) := by decide +kernel
theorem d_W_law_369 : decode b_W_law 369 = .ok (.lor, 1) := by decide +kernel
theorem d_W_law_370 : decode b_W_law 370 = .ok (.aload_n 0, 1) := by decide +kernel
theorem d_W_law_371 : decode b_W_law 371 = .ok (.iload 4, 2) := by decide +kernel
theorem d_W_law_373 : decode b_W_law 373 = .ok (.iconst 3, 1) := by decide +kernel
theorem d_W_law_374 : decode b_W_law 374 = .ok (.iadd, 1) := by decide +kernel
theorem d_W_law_375 : decode b_W_law 375 = .ok (.iaload, 1) := by decide +kernel
theorem d_W_law_376 : decode b_W_law 376 = .ok (.i2l, 1) := by decide +kernel
theorem d_W_law_377 : decode b_W_law 377 = .ok (.bipush 32, 2) := by decide +kernel
theorem d_W_law_379 : decode b_W_law 379 = .ok (.lshl, 1) := by decide +kernel
theorem d_W_law_380 : decode b_W_law 380 = .ok (.aload_n 0, 1) := by decide +kernel
theorem d_W_law_381 : decode b_W_law 381 = .ok (.iload 4, 2) := by decide +kernel
theorem d_W_law_383 : decode b_W_law 383 = .ok (.iconst 4, 1) := by decide +kernel
theorem d_W_law_384 : decode b_W_law 384 = .ok (.iadd, 1) := by decide +kernel
theorem d_W_law_385 : decode b_W_law 385 = .ok (.iaload, 1) := by decide +kernel
theorem d_W_law_386 : decode b_W_law 386 = .ok (.i2l, 1) := by decide +kernel
theorem d_W_law_387 : decode b_W_law 387 = .ok (.ldc2_w 27, 3) := by decide +kernel
theorem d_W_law_390 : decode b_W_law 390 = .ok (.land, 1) := by decide +kernel
theorem d_W_law_391 : decode b_W_law 391 = .ok (.lor, 1) := by decide +kernel
theorem d_W_law_392 : decode b_W_law 392 = .ok (.invokevirtual 48, 3) := by decide +kernel
theorem d_W_law_395 : decode b_W_law 395 = .ok (.if_icmp .eq 464, 3) := by decide +kernel
theorem d_W_law_398 : decode b_W_law 398 = .ok (.iconst 0, 1) := by decide +kernel
theorem d_W_law_399 : decode b_W_law 399 = .ok (.ireturn, 1) := by decide +kernel
theorem d_W_law_400 : decode b_W_law 400 = .ok (.aload_n 1, 1) := by decide +kernel
theorem d_W_law_401 : decode b_W_law 401 = .ok (.aload_n 0, 1) := by decide +kernel
theorem d_W_law_402 : decode b_W_law 402 = .ok (.iload 4, 2) := by decide +kernel
theorem d_W_law_404 : decode b_W_law 404 = .ok (.iconst 1, 1) := by decide +kernel
theorem d_W_law_405 : decode b_W_law 405 = .ok (.iadd, 1) := by decide +kernel
theorem d_W_law_406 : decode b_W_law 406 = .ok (.iaload, 1) := by decide +kernel
theorem d_W_law_407 : decode b_W_law 407 = .ok (.aload_n 0, 1) := by decide +kernel
theorem d_W_law_408 : decode b_W_law 408 = .ok (.iload 4, 2) := by decide +kernel
theorem d_W_law_410 : decode b_W_law 410 = .ok (.iconst 2, 1) := by decide +kernel
theorem d_W_law_411 : decode b_W_law 411 = .ok (.iadd, 1) := by decide +kernel
theorem d_W_law_412 : decode b_W_law 412 = .ok (.iaload, 1) := by decide +kernel
theorem d_W_law_413 : decode b_W_law 413 = .ok (.invokevirtual 49, 3) := by decide +kernel
theorem d_W_law_416 : decode b_W_law 416 = .ok (.aload_n 2, 1) := by decide +kernel
theorem d_W_law_417 : decode b_W_law 417 = .ok (.aload_n 0, 1) := by decide +kernel
theorem d_W_law_418 : decode b_W_law 418 = .ok (.iload 4, 2) := by decide +kernel
theorem d_W_law_420 : decode b_W_law 420 = .ok (.iconst 1, 1) := by decide +kernel
theorem d_W_law_421 : decode b_W_law 421 = .ok (.iadd, 1) := by decide +kernel
theorem d_W_law_422 : decode b_W_law 422 = .ok (.iaload, 1) := by decide +kernel
theorem d_W_law_423 : decode b_W_law 423 = .ok (.aload_n 0, 1) := by decide +kernel
theorem d_W_law_424 : decode b_W_law 424 = .ok (.iload 4, 2) := by decide +kernel
theorem d_W_law_426 : decode b_W_law 426 = .ok (.iconst 2, 1) := by decide +kernel
theorem d_W_law_427 : decode b_W_law 427 = .ok (.iadd, 1) := by decide +kernel
theorem d_W_law_428 : decode b_W_law 428 = .ok (.iaload, 1) := by decide +kernel
theorem d_W_law_429 : decode b_W_law 429 = .ok (.invokevirtual 53, 3) := by decide +kernel
theorem d_W_law_432 : decode b_W_law 432 = .ok (.if_icmp .eq 427, 3) := by decide +kernel
theorem d_W_law_435 : decode b_W_law 435 = .ok (.iconst 0, 1) := by decide +kernel
theorem d_W_law_436 : decode b_W_law 436 = .ok (.ireturn, 1) := by decide +kernel
theorem d_W_law_437 : decode b_W_law 437 = .ok (.aload_n 1, 1) := by decide +kernel
theorem d_W_law_438 : decode b_W_law 438 = .ok (.aload_n 0, 1) := by decide +kernel
theorem d_W_law_439 : decode b_W_law 439 = .ok (.iload 4, 2) := by decide +kernel
theorem d_W_law_441 : decode b_W_law 441 = .ok (.iconst 1, 1) := by decide +kernel
theorem d_W_law_442 : decode b_W_law 442 = .ok (.iadd, 1) := by decide +kernel
theorem d_W_law_443 : decode b_W_law 443 = .ok (.iaload, 1) := by decide +kernel
theorem d_W_law_444 : decode b_W_law 444 = .ok (.aload_n 0, 1) := by decide +kernel
theorem d_W_law_445 : decode b_W_law 445 = .ok (.iload 4, 2) := by decide +kernel
theorem d_W_law_447 : decode b_W_law 447 = .ok (.iconst 2, 1) := by decide +kernel
theorem d_W_law_448 : decode b_W_law 448 = .ok (.iadd, 1) := by decide +kernel
theorem d_W_law_449 : decode b_W_law 449 = .ok (.iaload, 1) := by decide +kernel
theorem d_W_law_450 : decode b_W_law 450 = .ok (.aload_n 0, 1) := by decide +kernel
theorem d_W_law_451 : decode b_W_law 451 = .ok (.iload 4, 2) := by decide +kernel
theorem d_W_law_453 : decode b_W_law 453 = .ok (.iconst 3, 1) := by decide +kernel
theorem d_W_law_454 : decode b_W_law 454 = .ok (.iadd, 1) := by decide +kernel
theorem d_W_law_455 : decode b_W_law 455 = .ok (.iaload, 1) := by decide +kernel
theorem d_W_law_456 : decode b_W_law 456 = .ok (.invokevirtual 54, 3) := by decide +kernel
theorem d_W_law_459 : decode b_W_law 459 = .ok (.aload_n 2, 1) := by decide +kernel
theorem d_W_law_460 : decode b_W_law 460 = .ok (.aload_n 0, 1) := by decide +kernel
theorem d_W_law_461 : decode b_W_law 461 = .ok (.iload 4, 2) := by decide +kernel
theorem d_W_law_463 : decode b_W_law 463 = .ok (.iconst 1, 1) := by decide +kernel
theorem d_W_law_464 : decode b_W_law 464 = .ok (.iadd, 1) := by decide +kernel
theorem d_W_law_465 : decode b_W_law 465 = .ok (.iaload, 1) := by decide +kernel
theorem d_W_law_466 : decode b_W_law 466 = .ok (.aload_n 0, 1) := by decide +kernel
theorem d_W_law_467 : decode b_W_law 467 = .ok (.iload 4, 2) := by decide +kernel
theorem d_W_law_469 : decode b_W_law 469 = .ok (.iconst 2, 1) := by decide +kernel
theorem d_W_law_470 : decode b_W_law 470 = .ok (.iadd, 1) := by decide +kernel
theorem d_W_law_471 : decode b_W_law 471 = .ok (.iaload, 1) := by decide +kernel
theorem d_W_law_472 : decode b_W_law 472 = .ok (.aload_n 0, 1) := by decide +kernel
theorem d_W_law_473 : decode b_W_law 473 = .ok (.iload 4, 2) := by decide +kernel
theorem d_W_law_475 : decode b_W_law 475 = .ok (.iconst 3, 1) := by decide +kernel
theorem d_W_law_476 : decode b_W_law 476 = .ok (.iadd, 1) := by decide +kernel
theorem d_W_law_477 : decode b_W_law 477 = .ok (.iaload, 1) := by decide +kernel
theorem d_W_law_478 : decode b_W_law 478 = .ok (.invokevirtual 58, 3) := by decide +kernel
theorem d_W_law_481 : decode b_W_law 481 = .ok (.if_icmp .eq 378, 3) := by decide +kernel
theorem d_W_law_484 : decode b_W_law 484 = .ok (.iconst 0, 1) := by decide +kernel
theorem d_W_law_485 : decode b_W_law 485 = .ok (.ireturn, 1) := by decide +kernel
theorem d_W_law_486 : decode b_W_law 486 = .ok (.aload_n 1, 1) := by decide +kernel
theorem d_W_law_487 : decode b_W_law 487 = .ok (.aload_n 0, 1) := by decide +kernel
theorem d_W_law_488 : decode b_W_law 488 = .ok (.iload 4, 2) := by decide +kernel
theorem d_W_law_490 : decode b_W_law 490 = .ok (.iconst 1, 1) := by decide +kernel
theorem d_W_law_491 : decode b_W_law 491 = .ok (.iadd, 1) := by decide +kernel
theorem d_W_law_492 : decode b_W_law 492 = .ok (.iaload, 1) := by decide +kernel
theorem d_W_law_493 : decode b_W_law 493 = .ok (.invokevirtual 59, 3) := by decide +kernel
theorem d_W_law_496 : decode b_W_law 496 = .ok (.aload_n 2, 1) := by decide +kernel
theorem d_W_law_497 : decode b_W_law 497 = .ok (.aload_n 0, 1) := by decide +kernel
theorem d_W_law_498 : decode b_W_law 498 = .ok (.iload 4, 2) := by decide +kernel
theorem d_W_law_500 : decode b_W_law 500 = .ok (.iconst 1, 1) := by decide +kernel
theorem d_W_law_501 : decode b_W_law 501 = .ok (.iadd, 1) := by decide +kernel
theorem d_W_law_502 : decode b_W_law 502 = .ok (.iaload, 1) := by decide +kernel
theorem d_W_law_503 : decode b_W_law 503 = .ok (.invokevirtual 63, 3) := by decide +kernel
theorem d_W_law_506 : decode b_W_law 506 = .ok (.if_icmp .eq 353, 3) := by decide +kernel
theorem d_W_law_509 : decode b_W_law 509 = .ok (.iconst 0, 1) := by decide +kernel
theorem d_W_law_510 : decode b_W_law 510 = .ok (.ireturn, 1) := by decide +kernel
theorem d_W_law_511 : decode b_W_law 511 = .ok (.aload_n 1, 1) := by decide +kernel
theorem d_W_law_512 : decode b_W_law 512 = .ok (.aload_n 0, 1) := by decide +kernel
theorem d_W_law_513 : decode b_W_law 513 = .ok (.iload 4, 2) := by decide +kernel
theorem d_W_law_515 : decode b_W_law 515 = .ok (.iconst 1, 1) := by decide +kernel
theorem d_W_law_516 : decode b_W_law 516 = .ok (.iadd, 1) := by decide +kernel
theorem d_W_law_517 : decode b_W_law 517 = .ok (.iaload, 1) := by decide +kernel
theorem d_W_law_518 : decode b_W_law 518 = .ok (.invokevirtual 64, 3) := by decide +kernel
theorem d_W_law_521 : decode b_W_law 521 = .ok (.aload_n 2, 1) := by decide +kernel
theorem d_W_law_522 : decode b_W_law 522 = .ok (.aload_n 0, 1) := by decide +kernel
theorem d_W_law_523 : decode b_W_law 523 = .ok (.iload 4, 2) := by decide +kernel
theorem d_W_law_525 : decode b_W_law 525 = .ok (.iconst 1, 1) := by decide +kernel
theorem d_W_law_526 : decode b_W_law 526 = .ok (.iadd, 1) := by decide +kernel
theorem d_W_law_527 : decode b_W_law 527 = .ok (.iaload, 1) := by decide +kernel
theorem d_W_law_528 : decode b_W_law 528 = .ok (.invokevirtual 67, 3) := by decide +kernel
theorem d_W_law_531 : decode b_W_law 531 = .ok (.if_icmp .eq 328, 3) := by decide +kernel
theorem d_W_law_534 : decode b_W_law 534 = .ok (.iconst 0, 1) := by decide +kernel
theorem d_W_law_535 : decode b_W_law 535 = .ok (.ireturn, 1) := by decide +kernel
theorem d_W_law_536 : decode b_W_law 536 = .ok (.aload_n 1, 1) := by decide +kernel
theorem d_W_law_537 : decode b_W_law 537 = .ok (.aload_n 0, 1) := by decide +kernel
theorem d_W_law_538 : decode b_W_law 538 = .ok (.iload 4, 2) := by decide +kernel
theorem d_W_law_540 : decode b_W_law 540 = .ok (.iconst 1, 1) := by decide +kernel
theorem d_W_law_541 : decode b_W_law 541 = .ok (.iadd, 1) := by decide +kernel
theorem d_W_law_542 : decode b_W_law 542 = .ok (.iaload, 1) := by decide +kernel
theorem d_W_law_543 : decode b_W_law 543 = .ok (.invokevirtual 68, 3) := by decide +kernel
theorem d_W_law_546 : decode b_W_law 546 = .ok (.aload_n 2, 1) := by decide +kernel
theorem d_W_law_547 : decode b_W_law 547 = .ok (.aload_n 0, 1) := by decide +kernel
theorem d_W_law_548 : decode b_W_law 548 = .ok (.iload 4, 2) := by decide +kernel
theorem d_W_law_550 : decode b_W_law 550 = .ok (.iconst 1, 1) := by decide +kernel
theorem d_W_law_551 : decode b_W_law 551 = .ok (.iadd, 1) := by decide +kernel
theorem d_W_law_552 : decode b_W_law 552 = .ok (.iaload, 1) := by decide +kernel
theorem d_W_law_553 : decode b_W_law 553 = .ok (.invokevirtual 71, 3) := by decide +kernel
theorem d_W_law_556 : decode b_W_law 556 = .ok (.if_icmp .eq 303, 3) := by decide +kernel
theorem d_W_law_559 : decode b_W_law 559 = .ok (.iconst 0, 1) := by decide +kernel
theorem d_W_law_560 : decode b_W_law 560 = .ok (.ireturn, 1) := by decide +kernel
theorem d_W_law_561 : decode b_W_law 561 = .ok (.aload_n 1, 1) := by decide +kernel
theorem d_W_law_562 : decode b_W_law 562 = .ok (.aload_n 0, 1) := by decide +kernel
theorem d_W_law_563 : decode b_W_law 563 = .ok (.iload 4, 2) := by decide +kernel
theorem d_W_law_565 : decode b_W_law 565 = .ok (.iconst 1, 1) := by decide +kernel
theorem d_W_law_566 : decode b_W_law 566 = .ok (.iadd, 1) := by decide +kernel
theorem d_W_law_567 : decode b_W_law 567 = .ok (.iaload, 1) := by decide +kernel
theorem d_W_law_568 : decode b_W_law 568 = .ok (.invokevirtual 72, 3) := by decide +kernel
theorem d_W_law_571 : decode b_W_law 571 = .ok (.aload_n 2, 1) := by decide +kernel
theorem d_W_law_572 : decode b_W_law 572 = .ok (.aload_n 0, 1) := by decide +kernel
theorem d_W_law_573 : decode b_W_law 573 = .ok (.iload 4, 2) := by decide +kernel
theorem d_W_law_575 : decode b_W_law 575 = .ok (.iconst 1, 1) := by decide +kernel
theorem d_W_law_576 : decode b_W_law 576 = .ok (.iadd, 1) := by decide +kernel
theorem d_W_law_577 : decode b_W_law 577 = .ok (.iaload, 1) := by decide +kernel
theorem d_W_law_578 : decode b_W_law 578 = .ok (.invokevirtual 75, 3) := by decide +kernel
theorem d_W_law_581 : decode b_W_law 581 = .ok (.if_icmp .eq 278, 3) := by decide +kernel
theorem d_W_law_584 : decode b_W_law 584 = .ok (.iconst 0, 1) := by decide +kernel
theorem d_W_law_585 : decode b_W_law 585 = .ok (.ireturn, 1) := by decide +kernel
theorem d_W_law_586 : decode b_W_law 586 = .ok (.aload_n 1, 1) := by decide +kernel
theorem d_W_law_587 : decode b_W_law 587 = .ok (.aload_n 0, 1) := by decide +kernel
theorem d_W_law_588 : decode b_W_law 588 = .ok (.iload 4, 2) := by decide +kernel
theorem d_W_law_590 : decode b_W_law 590 = .ok (.iconst 1, 1) := by decide +kernel
theorem d_W_law_591 : decode b_W_law 591 = .ok (.iadd, 1) := by decide +kernel
theorem d_W_law_592 : decode b_W_law 592 = .ok (.iaload, 1) := by decide +kernel
theorem d_W_law_593 : decode b_W_law 593 = .ok (.invokevirtual 76, 3) := by decide +kernel
theorem d_W_law_596 : decode b_W_law 596 = .ok (.aload_n 2, 1) := by decide +kernel
theorem d_W_law_597 : decode b_W_law 597 = .ok (.aload_n 0, 1) := by decide +kernel
theorem d_W_law_598 : decode b_W_law 598 = .ok (.iload 4, 2) := by decide +kernel
theorem d_W_law_600 : decode b_W_law 600 = .ok (.iconst 1, 1) := by decide +kernel
theorem d_W_law_601 : decode b_W_law 601 = .ok (.iadd, 1) := by decide +kernel
theorem d_W_law_602 : decode b_W_law 602 = .ok (.iaload, 1) := by decide +kernel
theorem d_W_law_603 : decode b_W_law 603 = .ok (.invokevirtual 79, 3) := by decide +kernel
theorem d_W_law_606 : decode b_W_law 606 = .ok (.if_icmp .eq 253, 3) := by decide +kernel
theorem d_W_law_609 : decode b_W_law 609 = .ok (.iconst 0, 1) := by decide +kernel
theorem d_W_law_610 : decode b_W_law 610 = .ok (.ireturn, 1) := by decide +kernel
theorem d_W_law_611 : decode b_W_law 611 = .ok (.aload_n 1, 1) := by decide +kernel
theorem d_W_law_612 : decode b_W_law 612 = .ok (.aload_n 0, 1) := by decide +kernel
theorem d_W_law_613 : decode b_W_law 613 = .ok (.iload 4, 2) := by decide +kernel
theorem d_W_law_615 : decode b_W_law 615 = .ok (.iconst 1, 1) := by decide +kernel
theorem d_W_law_616 : decode b_W_law 616 = .ok (.iadd, 1) := by decide +kernel
theorem d_W_law_617 : decode b_W_law 617 = .ok (.iaload, 1) := by decide +kernel
theorem d_W_law_618 : decode b_W_law 618 = .ok (.aload_n 0, 1) := by decide +kernel
theorem d_W_law_619 : decode b_W_law 619 = .ok (.iload 4, 2) := by decide +kernel
theorem d_W_law_621 : decode b_W_law 621 = .ok (.iconst 2, 1) := by decide +kernel
theorem d_W_law_622 : decode b_W_law 622 = .ok (.iadd, 1) := by decide +kernel
theorem d_W_law_623 : decode b_W_law 623 = .ok (.iaload, 1) := by decide +kernel
theorem d_W_law_624 : decode b_W_law 624 = .ok (.aload_n 3, 1) := by decide +kernel
theorem d_W_law_625 : decode b_W_law 625 = .ok (.invokestatic 80, 3) := by decide +kernel
theorem d_W_law_628 : decode b_W_law 628 = .ok (.istore 5, 2) := by decide +kernel
theorem d_W_law_630 : decode b_W_law 630 = .ok (.aload_n 2, 1) := by decide +kernel
theorem d_W_law_631 : decode b_W_law 631 = .ok (.aload_n 0, 1) := by decide +kernel
theorem d_W_law_632 : decode b_W_law 632 = .ok (.iload 4, 2) := by decide +kernel
theorem d_W_law_634 : decode b_W_law 634 = .ok (.iconst 1, 1) := by decide +kernel
theorem d_W_law_635 : decode b_W_law 635 = .ok (.iadd, 1) := by decide +kernel
theorem d_W_law_636 : decode b_W_law 636 = .ok (.iaload, 1) := by decide +kernel
theorem d_W_law_637 : decode b_W_law 637 = .ok (.aload_n 0, 1) := by decide +kernel
theorem d_W_law_638 : decode b_W_law 638 = .ok (.iload 4, 2) := by decide +kernel
theorem d_W_law_640 : decode b_W_law 640 = .ok (.iconst 2, 1) := by decide +kernel
theorem d_W_law_641 : decode b_W_law 641 = .ok (.iadd, 1) := by decide +kernel
theorem d_W_law_642 : decode b_W_law 642 = .ok (.iaload, 1) := by decide +kernel
theorem d_W_law_643 : decode b_W_law 643 = .ok (.invokevirtual 85, 3) := by decide +kernel
theorem d_W_law_646 : decode b_W_law 646 = .ok (.lstore 6, 2) := by decide +kernel
theorem d_W_law_648 : decode b_W_law 648 = .ok (.aload_n 2, 1) := by decide +kernel
theorem d_W_law_649 : decode b_W_law 649 = .ok (.invokevirtual 86, 3) := by decide +kernel
theorem d_W_law_652 : decode b_W_law 652 = .ok (.iload 5, 2) := by decide +kernel
theorem d_W_law_654 : decode b_W_law 654 = .ok (.if_icmp .eq 5, 3) := by decide +kernel
theorem d_W_law_657 : decode b_W_law 657 = .ok (.iconst 0, 1) := by decide +kernel
theorem d_W_law_658 : decode b_W_law 658 = .ok (.ireturn, 1) := by decide +kernel
theorem d_W_law_659 : decode b_W_law 659 = .ok (.iload 5, 2) := by decide +kernel
theorem d_W_law_661 : decode b_W_law 661 = .ok (.ifCond .ne 14, 3) := by decide +kernel
theorem d_W_law_664 : decode b_W_law 664 = .ok (.aload_n 3, 1) := by decide +kernel
theorem d_W_law_665 : decode b_W_law 665 = .ok (.iconst 0, 1) := by decide +kernel
theorem d_W_law_666 : decode b_W_law 666 = .ok (.laload, 1) := by decide +kernel
theorem d_W_law_667 : decode b_W_law 667 = .ok (.lload 6, 2) := by decide +kernel
theorem d_W_law_669 : decode b_W_law 669 = .ok (.lcmp, 1) := by decide +kernel
theorem d_W_law_670 : decode b_W_law 670 = .ok (.ifCond .eq 5, 3) := by decide +kernel
theorem d_W_law_673 : decode b_W_law 673 = .ok (.iconst 0, 1) := by decide +kernel
theorem d_W_law_674 : decode b_W_law 674 = .ok (.ireturn, 1) := by decide +kernel
theorem d_W_law_675 : decode b_W_law 675 = .ok (.goto 184, 3) := by decide +kernel
theorem d_W_law_678 : decode b_W_law 678 = .ok (.aload_n 1, 1) := by decide +kernel
theorem d_W_law_679 : decode b_W_law 679 = .ok (.aload_n 0, 1) := by decide +kernel
theorem d_W_law_680 : decode b_W_law 680 = .ok (.iload 4, 2) := by decide +kernel
theorem d_W_law_682 : decode b_W_law 682 = .ok (.iconst 1, 1) := by decide +kernel
theorem d_W_law_683 : decode b_W_law 683 = .ok (.iadd, 1) := by decide +kernel
theorem d_W_law_684 : decode b_W_law 684 = .ok (.iaload, 1) := by decide +kernel
theorem d_W_law_685 : decode b_W_law 685 = .ok (.invokevirtual 89, 3) := by decide +kernel
theorem d_W_law_688 : decode b_W_law 688 = .ok (.aload_n 2, 1) := by decide +kernel
theorem d_W_law_689 : decode b_W_law 689 = .ok (.aload_n 0, 1) := by decide +kernel
theorem d_W_law_690 : decode b_W_law 690 = .ok (.iload 4, 2) := by decide +kernel
theorem d_W_law_692 : decode b_W_law 692 = .ok (.iconst 1, 1) := by decide +kernel
theorem d_W_law_693 : decode b_W_law 693 = .ok (.iadd, 1) := by decide +kernel
theorem d_W_law_694 : decode b_W_law 694 = .ok (.iaload, 1) := by decide +kernel
theorem d_W_law_695 : decode b_W_law 695 = .ok (.invokevirtual 92, 3) := by decide +kernel
theorem d_W_law_698 : decode b_W_law 698 = .ok (.if_icmp .eq 161, 3) := by decide +kernel
theorem d_W_law_701 : decode b_W_law 701 = .ok (.iconst 0, 1) := by decide +kernel
theorem d_W_law_702 : decode b_W_law 702 = .ok (.ireturn, 1) := by decide +kernel
theorem d_W_law_703 : decode b_W_law 703 = .ok (.aload_n 1, 1) := by decide +kernel
theorem d_W_law_704 : decode b_W_law 704 = .ok (.aload_n 0, 1) := by decide +kernel
theorem d_W_law_705 : decode b_W_law 705 = .ok (.iload 4, 2) := by decide +kernel
theorem d_W_law_707 : decode b_W_law 707 = .ok (.iconst 1, 1) := by decide +kernel
theorem d_W_law_708 : decode b_W_law 708 = .ok (.iadd, 1) := by decide +kernel
theorem d_W_law_709 : decode b_W_law 709 = .ok (.iaload, 1) := by decide +kernel
theorem d_W_law_710 : decode b_W_law 710 = .ok (.aload_n 0, 1) := by decide +kernel
theorem d_W_law_711 : decode b_W_law 711 = .ok (.iload 4, 2) := by decide +kernel
theorem d_W_law_713 : decode b_W_law 713 = .ok (.iconst 2, 1) := by decide +kernel
theorem d_W_law_714 : decode b_W_law 714 = .ok (.iadd, 1) := by decide +kernel
theorem d_W_law_715 : decode b_W_law 715 = .ok (.iaload, 1) := by decide +kernel
theorem d_W_law_716 : decode b_W_law 716 = .ok (.aload_n 0, 1) := by decide +kernel
theorem d_W_law_717 : decode b_W_law 717 = .ok (.iload 4, 2) := by decide +kernel
theorem d_W_law_719 : decode b_W_law 719 = .ok (.iconst 3, 1) := by decide +kernel
theorem d_W_law_720 : decode b_W_law 720 = .ok (.iadd, 1) := by decide +kernel
theorem d_W_law_721 : decode b_W_law 721 = .ok (.iaload, 1) := by decide +kernel
theorem d_W_law_722 : decode b_W_law 722 = .ok (.invokevirtual 93, 3) := by decide +kernel
theorem d_W_law_725 : decode b_W_law 725 = .ok (.aload_n 2, 1) := by decide +kernel
theorem d_W_law_726 : decode b_W_law 726 = .ok (.aload_n 0, 1) := by decide +kernel
theorem d_W_law_727 : decode b_W_law 727 = .ok (.iload 4, 2) := by decide +kernel
theorem d_W_law_729 : decode b_W_law 729 = .ok (.iconst 1, 1) := by decide +kernel
theorem d_W_law_730 : decode b_W_law 730 = .ok (.iadd, 1) := by decide +kernel
theorem d_W_law_731 : decode b_W_law 731 = .ok (.iaload, 1) := by decide +kernel
theorem d_W_law_732 : decode b_W_law 732 = .ok (.aload_n 0, 1) := by decide +kernel
theorem d_W_law_733 : decode b_W_law 733 = .ok (.iload 4, 2) := by decide +kernel
theorem d_W_law_735 : decode b_W_law 735 = .ok (.iconst 2, 1) := by decide +kernel
theorem d_W_law_736 : decode b_W_law 736 = .ok (.iadd, 1) := by decide +kernel
theorem d_W_law_737 : decode b_W_law 737 = .ok (.iaload, 1) := by decide +kernel
theorem d_W_law_738 : decode b_W_law 738 = .ok (.aload_n 0, 1) := by decide +kernel
theorem d_W_law_739 : decode b_W_law 739 = .ok (.iload 4, 2) := by decide +kernel
theorem d_W_law_741 : decode b_W_law 741 = .ok (.iconst 3, 1) := by decide +kernel
theorem d_W_law_742 : decode b_W_law 742 = .ok (.iadd, 1) := by decide +kernel
theorem d_W_law_743 : decode b_W_law 743 = .ok (.iaload, 1) := by decide +kernel
theorem d_W_law_744 : decode b_W_law 744 = .ok (.invokevirtual 97, 3) := by decide +kernel
theorem d_W_law_747 : decode b_W_law 747 = .ok (.lcmp, 1) := by decide +kernel
theorem d_W_law_748 : decode b_W_law 748 = .ok (.ifCond .eq 111, 3) := by decide +kernel
theorem d_W_law_751 : decode b_W_law 751 = .ok (.iconst 0, 1) := by decide +kernel
theorem d_W_law_752 : decode b_W_law 752 = .ok (.ireturn, 1) := by decide +kernel
theorem d_W_law_753 : decode b_W_law 753 = .ok (.aload_n 1, 1) := by decide +kernel
theorem d_W_law_754 : decode b_W_law 754 = .ok (.aload_n 0, 1) := by decide +kernel
theorem d_W_law_755 : decode b_W_law 755 = .ok (.iload 4, 2) := by decide +kernel
theorem d_W_law_757 : decode b_W_law 757 = .ok (.iconst 1, 1) := by decide +kernel
theorem d_W_law_758 : decode b_W_law 758 = .ok (.iadd, 1) := by decide +kernel
theorem d_W_law_759 : decode b_W_law 759 = .ok (.iaload, 1) := by decide +kernel
theorem d_W_law_760 : decode b_W_law 760 = .ok (.aload_n 0, 1) := by decide +kernel
theorem d_W_law_761 : decode b_W_law 761 = .ok (.iload 4, 2) := by decide +kernel
theorem d_W_law_763 : decode b_W_law 763 = .ok (.iconst 2, 1) := by decide +kernel
theorem d_W_law_764 : decode b_W_law 764 = .ok (.iadd, 1) := by decide +kernel
theorem d_W_law_765 : decode b_W_law 765 = .ok (.iaload, 1) := by decide +kernel
theorem d_W_law_766 : decode b_W_law 766 = .ok (.invokevirtual 98, 3) := by decide +kernel
theorem d_W_law_769 : decode b_W_law 769 = .ok (.aload_n 2, 1) := by decide +kernel
theorem d_W_law_770 : decode b_W_law 770 = .ok (.aload_n 0, 1) := by decide +kernel
theorem d_W_law_771 : decode b_W_law 771 = .ok (.iload 4, 2) := by decide +kernel
theorem d_W_law_773 : decode b_W_law 773 = .ok (.iconst 1, 1) := by decide +kernel
theorem d_W_law_774 : decode b_W_law 774 = .ok (.iadd, 1) := by decide +kernel
theorem d_W_law_775 : decode b_W_law 775 = .ok (.iaload, 1) := by decide +kernel
theorem d_W_law_776 : decode b_W_law 776 = .ok (.aload_n 0, 1) := by decide +kernel
theorem d_W_law_777 : decode b_W_law 777 = .ok (.iload 4, 2) := by decide +kernel
theorem d_W_law_779 : decode b_W_law 779 = .ok (.iconst 2, 1) := by decide +kernel
theorem d_W_law_780 : decode b_W_law 780 = .ok (.iadd, 1) := by decide +kernel
theorem d_W_law_781 : decode b_W_law 781 = .ok (.iaload, 1) := by decide +kernel
theorem d_W_law_782 : decode b_W_law 782 = .ok (.invokevirtual 102, 3) := by decide +kernel
theorem d_W_law_785 : decode b_W_law 785 = .ok (.if_icmp .eq 74, 3) := by decide +kernel
theorem d_W_law_788 : decode b_W_law 788 = .ok (.iconst 0, 1) := by decide +kernel
theorem d_W_law_789 : decode b_W_law 789 = .ok (.ireturn, 1) := by decide +kernel
theorem d_W_law_790 : decode b_W_law 790 = .ok (.aload_n 1, 1) := by decide +kernel
theorem d_W_law_791 : decode b_W_law 791 = .ok (.aload_n 0, 1) := by decide +kernel
theorem d_W_law_792 : decode b_W_law 792 = .ok (.iload 4, 2) := by decide +kernel
theorem d_W_law_794 : decode b_W_law 794 = .ok (.iconst 1, 1) := by decide +kernel
theorem d_W_law_795 : decode b_W_law 795 = .ok (.iadd, 1) := by decide +kernel
theorem d_W_law_796 : decode b_W_law 796 = .ok (.iaload, 1) := by decide +kernel
theorem d_W_law_797 : decode b_W_law 797 = .ok (.invokevirtual 103, 3) := by decide +kernel
theorem d_W_law_800 : decode b_W_law 800 = .ok (.aload_n 2, 1) := by decide +kernel
theorem d_W_law_801 : decode b_W_law 801 = .ok (.aload_n 0, 1) := by decide +kernel
theorem d_W_law_802 : decode b_W_law 802 = .ok (.iload 4, 2) := by decide +kernel
theorem d_W_law_804 : decode b_W_law 804 = .ok (.iconst 1, 1) := by decide +kernel
theorem d_W_law_805 : decode b_W_law 805 = .ok (.iadd, 1) := by decide +kernel
theorem d_W_law_806 : decode b_W_law 806 = .ok (.iaload, 1) := by decide +kernel
theorem d_W_law_807 : decode b_W_law 807 = .ok (.invokevirtual 106, 3) := by decide +kernel
theorem d_W_law_810 : decode b_W_law 810 = .ok (.if_icmp .eq 49, 3) := by decide +kernel
theorem d_W_law_813 : decode b_W_law 813 = .ok (.iconst 0, 1) := by decide +kernel
theorem d_W_law_814 : decode b_W_law 814 = .ok (.ireturn, 1) := by decide +kernel
theorem d_W_law_815 : decode b_W_law 815 = .ok (.aload_n 1, 1) := by decide +kernel
theorem d_W_law_816 : decode b_W_law 816 = .ok (.aload_n 3, 1) := by decide +kernel
theorem d_W_law_817 : decode b_W_law 817 = .ok (.invokestatic 107, 3) := by decide +kernel
theorem d_W_law_820 : decode b_W_law 820 = .ok (.istore 5, 2) := by decide +kernel
theorem d_W_law_822 : decode b_W_law 822 = .ok (.aload_n 2, 1) := by decide +kernel
theorem d_W_law_823 : decode b_W_law 823 = .ok (.invokevirtual 110, 3) := by decide +kernel
theorem d_W_law_826 : decode b_W_law 826 = .ok (.istore 6, 2) := by decide +kernel
theorem d_W_law_828 : decode b_W_law 828 = .ok (.aload_n 2, 1) := by decide +kernel
theorem d_W_law_829 : decode b_W_law 829 = .ok (.invokevirtual 86, 3) := by decide +kernel
theorem d_W_law_832 : decode b_W_law 832 = .ok (.iload 5, 2) := by decide +kernel
theorem d_W_law_834 : decode b_W_law 834 = .ok (.if_icmp .eq 5, 3) := by decide +kernel
theorem d_W_law_837 : decode b_W_law 837 = .ok (.iconst 0, 1) := by decide +kernel
theorem d_W_law_838 : decode b_W_law 838 = .ok (.ireturn, 1) := by decide +kernel
theorem d_W_law_839 : decode b_W_law 839 = .ok (.iload 5, 2) := by decide +kernel
theorem d_W_law_841 : decode b_W_law 841 = .ok (.ifCond .ne 15, 3) := by decide +kernel
theorem d_W_law_844 : decode b_W_law 844 = .ok (.aload_n 3, 1) := by decide +kernel
theorem d_W_law_845 : decode b_W_law 845 = .ok (.iconst 0, 1) := by decide +kernel
theorem d_W_law_846 : decode b_W_law 846 = .ok (.laload, 1) := by decide +kernel
theorem d_W_law_847 : decode b_W_law 847 = .ok (.iload 6, 2) := by decide +kernel
theorem d_W_law_849 : decode b_W_law 849 = .ok (.i2l, 1) := by decide +kernel
theorem d_W_law_850 : decode b_W_law 850 = .ok (.lcmp, 1) := by decide +kernel
theorem d_W_law_851 : decode b_W_law 851 = .ok (.ifCond .eq 5, 3) := by decide +kernel
theorem d_W_law_854 : decode b_W_law 854 = .ok (.iconst 0, 1) := by decide +kernel
theorem d_W_law_855 : decode b_W_law 855 = .ok (.ireturn, 1) := by decide +kernel
theorem d_W_law_856 : decode b_W_law 856 = .ok (.goto 3, 3) := by decide +kernel
theorem d_W_law_859 : decode b_W_law 859 = .ok (.iinc 4 5, 3) := by decide +kernel
theorem d_W_law_862 : decode b_W_law 862 = .ok (.goto (-839), 3) := by decide +kernel
theorem d_W_law_865 : decode b_W_law 865 = .ok (.iconst 1, 1) := by decide +kernel
theorem d_W_law_866 : decode b_W_law 866 = .ok (.ireturn, 1) := by decide +kernel

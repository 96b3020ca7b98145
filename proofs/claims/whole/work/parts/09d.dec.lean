/-! what each instruction is -/
abbrev ML_law : z_M := (x, code, maxLocals, ret)
theorem dL_law_0 : decode ML_law.2.1 0 = .ok (.new 7, 3) := by decide +kernel
theorem dL_law_3 : decode ML_law.2.1 3 = .ok (.dup, 1) := by decide +kernel
theorem dL_law_4 : decode ML_law.2.1 4 = .ok (.invokespecial 9, 3) := by decide +kernel
theorem dL_law_7 : decode ML_law.2.1 7 = .ok (.astore_n 1, 1) := by decide +kernel
theorem dL_law_8 : decode ML_law.2.1 8 = .ok (.new 10, 3) := by decide +kernel
theorem dL_law_11 : decode ML_law.2.1 11 = .ok (.dup, 1) := by decide +kernel
theorem dL_law_12 : decode ML_law.2.1 12 = .ok (.invokespecial 12, 3) := by decide +kernel
theorem dL_law_15 : decode ML_law.2.1 15 = .ok (.astore_n 2, 1) := by decide +kernel
theorem dL_law_16 : decode ML_law.2.1 16 = .ok (.iconst 0, 1) := by decide +kernel
theorem dL_law_17 : decode ML_law.2.1 17 = .ok (.istore_n 3, 1) := by decide +kernel
theorem dL_law_18 : decode ML_law.2.1 18 = .ok (.iload_n 3, 1) := by decide +kernel
theorem dL_law_19 : decode ML_law.2.1 19 = .ok (.aload_n 0, 1) := by decide +kernel
theorem dL_law_20 : decode ML_law.2.1 20 = .ok (.arraylength, 1) := by decide +kernel
theorem dL_law_21 : decode ML_law.2.1 21 = .ok (.bipush 6, 2) := by decide +kernel
theorem dL_law_23 : decode ML_law.2.1 23 = .ok (.isub, 1) := by decide +kernel
theorem dL_law_24 : decode ML_law.2.1 24 = .ok (.if_icmp .gt 789, 3) := by decide +kernel
theorem dL_law_27 : decode ML_law.2.1 27 = .ok (.aload_n 0, 1) := by decide +kernel
theorem dL_law_28 : decode ML_law.2.1 28 = .ok (.iload_n 3, 1) := by decide +kernel
theorem dL_law_29 : decode ML_law.2.1 29 = .ok (.iaload, 1) := by decide +kernel
theorem dL_law_30 : decode ML_law.2.1 30 = .ok (.bipush 31, 2) := by decide +kernel
theorem dL_law_32 : decode ML_law.2.1 32 = .ok (.iand, 1) := by decide +kernel
theorem dL_law_33 : decode ML_law.2.1 33 = .ok (.tableswitch 774 0 21 #[103, 146, 189, 212, 255, 288, 331, 355, 389, 412, 435, 459, 482, 506, 529, 542, 605, 628, 661, 694, 718, 751], 103) := by decide +kernel
theorem dL_law_136 : decode ML_law.2.1 136 = .ok (.aload_n 1, 1) := by decide +kernel
theorem dL_law_137 : decode ML_law.2.1 137 = .ok (.aload_n 0, 1) := by decide +kernel
theorem dL_law_138 : decode ML_law.2.1 138 = .ok (.iload_n 3, 1) := by decide +kernel
theorem dL_law_139 : decode ML_law.2.1 139 = .ok (.iconst 1, 1) := by decide +kernel
theorem dL_law_140 : decode ML_law.2.1 140 = .ok (.iadd, 1) := by decide +kernel
theorem dL_law_141 : decode ML_law.2.1 141 = .ok (.iaload, 1) := by decide +kernel
theorem dL_law_142 : decode ML_law.2.1 142 = .ok (.aload_n 0, 1) := by decide +kernel
theorem dL_law_143 : decode ML_law.2.1 143 = .ok (.iload_n 3, 1) := by decide +kernel
theorem dL_law_144 : decode ML_law.2.1 144 = .ok (.iconst 2, 1) := by decide +kernel
theorem dL_law_145 : decode ML_law.2.1 145 = .ok (.iadd, 1) := by decide +kernel
theorem dL_law_146 : decode ML_law.2.1 146 = .ok (.iaload, 1) := by decide +kernel
theorem dL_law_147 : decode ML_law.2.1 147 = .ok (.aload_n 0, 1) := by decide +kernel
theorem dL_law_148 : decode ML_law.2.1 148 = .ok (.iload_n 3, 1) := by decide +kernel
theorem dL_law_149 : decode ML_law.2.1 149 = .ok (.iconst 3, 1) := by decide +kernel
theorem dL_law_150 : decode ML_law.2.1 150 = .ok (.iadd, 1) := by decide +kernel
theorem dL_law_151 : decode ML_law.2.1 151 = .ok (.iaload, 1) := by decide +kernel
theorem dL_law_152 : decode ML_law.2.1 152 = .ok (.invokevirtual 13, 3) := by decide +kernel
theorem dL_law_155 : decode ML_law.2.1 155 = .ok (.aload_n 2, 1) := by decide +kernel
theorem dL_law_156 : decode ML_law.2.1 156 = .ok (.aload_n 0, 1) := by decide +kernel
theorem dL_law_157 : decode ML_law.2.1 157 = .ok (.iload_n 3, 1) := by decide +kernel
theorem dL_law_158 : decode ML_law.2.1 158 = .ok (.iconst 1, 1) := by decide +kernel
theorem dL_law_159 : decode ML_law.2.1 159 = .ok (.iadd, 1) := by decide +kernel
theorem dL_law_160 : decode ML_law.2.1 160 = .ok (.iaload, 1) := by decide +kernel
theorem dL_law_161 : decode ML_law.2.1 161 = .ok (.aload_n 0, 1) := by decide +kernel
theorem dL_law_162 : decode ML_law.2.1 162 = .ok (.iload_n 3, 1) := by decide +kernel
theorem dL_law_163 : decode ML_law.2.1 163 = .ok (.iconst 2, 1) := by decide +kernel
theorem dL_law_164 : decode ML_law.2.1 164 = .ok (.iadd, 1) := by decide +kernel
theorem dL_law_165 : decode ML_law.2.1 165 = .ok (.iaload, 1) := by decide +kernel
theorem dL_law_166 : decode ML_law.2.1 166 = .ok (.aload_n 0, 1) := by decide +kernel
theorem dL_law_167 : decode ML_law.2.1 167 = .ok (.iload_n 3, 1) := by decide +kernel
theorem dL_law_168 : decode ML_law.2.1 168 = .ok (.iconst 3, 1) := by decide +kernel
theorem dL_law_169 : decode ML_law.2.1 169 = .ok (.iadd, 1) := by decide +kernel
theorem dL_law_170 : decode ML_law.2.1 170 = .ok (.iaload, 1) := by decide +kernel
theorem dL_law_171 : decode ML_law.2.1 171 = .ok (.invokevirtual 17, 3) := by decide +kernel
theorem dL_law_174 : decode ML_law.2.1 174 = .ok (.if_icmp .eq 633, 3) := by decide +kernel
theorem dL_law_177 : decode ML_law.2.1 177 = .ok (.iconst 0, 1) := by decide +kernel
theorem dL_law_178 : decode ML_law.2.1 178 = .ok (.ireturn, 1) := by decide +kernel
theorem dL_law_179 : decode ML_law.2.1 179 = .ok (.aload_n 1, 1) := by decide +kernel
theorem dL_law_180 : decode ML_law.2.1 180 = .ok (.aload_n 0, 1) := by decide +kernel
theorem dL_law_181 : decode ML_law.2.1 181 = .ok (.iload_n 3, 1) := by decide +kernel
theorem dL_law_182 : decode ML_law.2.1 182 = .ok (.iconst 1, 1) := by decide +kernel
theorem dL_law_183 : decode ML_law.2.1 183 = .ok (.iadd, 1) := by decide +kernel
theorem dL_law_184 : decode ML_law.2.1 184 = .ok (.iaload, 1) := by decide +kernel
theorem dL_law_185 : decode ML_law.2.1 185 = .ok (.aload_n 0, 1) := by decide +kernel
theorem dL_law_186 : decode ML_law.2.1 186 = .ok (.iload_n 3, 1) := by decide +kernel
theorem dL_law_187 : decode ML_law.2.1 187 = .ok (.iconst 2, 1) := by decide +kernel
theorem dL_law_188 : decode ML_law.2.1 188 = .ok (.iadd, 1) := by decide +kernel
theorem dL_law_189 : decode ML_law.2.1 189 = .ok (.iaload, 1) := by decide +kernel
theorem dL_law_190 : decode ML_law.2.1 190 = .ok (.aload_n 0, 1) := by decide +kernel
theorem dL_law_191 : decode ML_law.2.1 191 = .ok (.iload_n 3, 1) := by decide +kernel
theorem dL_law_192 : decode ML_law.2.1 192 = .ok (.iconst 3, 1) := by decide +kernel
theorem dL_law_193 : decode ML_law.2.1 193 = .ok (.iadd, 1) := by decide +kernel
theorem dL_law_194 : decode ML_law.2.1 194 = .ok (.iaload, 1) := by decide +kernel
theorem dL_law_195 : decode ML_law.2.1 195 = .ok (.invokevirtual 18, 3) := by decide +kernel
theorem dL_law_198 : decode ML_law.2.1 198 = .ok (.aload_n 2, 1) := by decide +kernel
theorem dL_law_199 : decode ML_law.2.1 199 = .ok (.aload_n 0, 1) := by decide +kernel
theorem dL_law_200 : decode ML_law.2.1 200 = .ok (.iload_n 3, 1) := by decide +kernel
theorem dL_law_201 : decode ML_law.2.1 201 = .ok (.iconst 1, 1) := by decide +kernel
theorem dL_law_202 : decode ML_law.2.1 202 = .ok (.iadd, 1) := by decide +kernel
theorem dL_law_203 : decode ML_law.2.1 203 = .ok (.iaload, 1) := by decide +kernel
theorem dL_law_204 : decode ML_law.2.1 204 = .ok (.aload_n 0, 1) := by decide +kernel
theorem dL_law_205 : decode ML_law.2.1 205 = .ok (.iload_n 3, 1) := by decide +kernel
theorem dL_law_206 : decode ML_law.2.1 206 = .ok (.iconst 2, 1) := by decide +kernel
theorem dL_law_207 : decode ML_law.2.1 207 = .ok (.iadd, 1) := by decide +kernel
theorem dL_law_208 : decode ML_law.2.1 208 = .ok (.iaload, 1) := by decide +kernel
theorem dL_law_209 : decode ML_law.2.1 209 = .ok (.aload_n 0, 1) := by decide +kernel
theorem dL_law_210 : decode ML_law.2.1 210 = .ok (.iload_n 3, 1) := by decide +kernel
theorem dL_law_211 : decode ML_law.2.1 211 = .ok (.iconst 3, 1) := by decide +kernel
theorem dL_law_212 : decode ML_law.2.1 212 = .ok (.iadd, 1) := by decide +kernel
theorem dL_law_213 : decode ML_law.2.1 213 = .ok (.iaload, 1) := by decide +kernel
theorem dL_law_214 : decode ML_law.2.1 214 = .ok (.invokevirtual 21, 3) := by decide +kernel
theorem dL_law_217 : decode ML_law.2.1 217 = .ok (.if_icmp .eq 590, 3) := by decide +kernel
theorem dL_law_220 : decode ML_law.2.1 220 = .ok (.iconst 0, 1) := by decide +kernel
theorem dL_law_221 : decode ML_law.2.1 221 = .ok (.ireturn, 1) := by decide +kernel
theorem dL_law_222 : decode ML_law.2.1 222 = .ok (.aload_n 1, 1) := by decide +kernel
theorem dL_law_223 : decode ML_law.2.1 223 = .ok (.aload_n 0, 1) := by decide +kernel
theorem dL_law_224 : decode ML_law.2.1 224 = .ok (.iload_n 3, 1) := by decide +kernel
theorem dL_law_225 : decode ML_law.2.1 225 = .ok (.iconst 1, 1) := by decide +kernel
theorem dL_law_226 : decode ML_law.2.1 226 = .ok (.iadd, 1) := by decide +kernel
theorem dL_law_227 : decode ML_law.2.1 227 = .ok (.iaload, 1) := by decide +kernel
theorem dL_law_228 : decode ML_law.2.1 228 = .ok (.invokevirtual 22, 3) := by decide +kernel
theorem dL_law_231 : decode ML_law.2.1 231 = .ok (.aload_n 2, 1) := by decide +kernel
theorem dL_law_232 : decode ML_law.2.1 232 = .ok (.aload_n 0, 1) := by decide +kernel
theorem dL_law_233 : decode ML_law.2.1 233 = .ok (.iload_n 3, 1) := by decide +kernel
theorem dL_law_234 : decode ML_law.2.1 234 = .ok (.iconst 1, 1) := by decide +kernel
theorem dL_law_235 : decode ML_law.2.1 235 = .ok (.iadd, 1) := by decide +kernel
theorem dL_law_236 : decode ML_law.2.1 236 = .ok (.iaload, 1) := by decide +kernel
theorem dL_law_237 : decode ML_law.2.1 237 = .ok (.invokevirtual 26, 3) := by decide +kernel
theorem dL_law_240 : decode ML_law.2.1 240 = .ok (.if_icmp .eq 567, 3) := by decide +kernel
theorem dL_law_243 : decode ML_law.2.1 243 = .ok (.iconst 0, 1) := by decide +kernel
theorem dL_law_244 : decode ML_law.2.1 244 = .ok (.ireturn, 1) := by decide +kernel
theorem dL_law_245 : decode ML_law.2.1 245 = .ok (.aload_n 1, 1) := by decide +kernel
theorem dL_law_246 : decode ML_law.2.1 246 = .ok (.aload_n 0, 1) := by decide +kernel
theorem dL_law_247 : decode ML_law.2.1 247 = .ok (.iload_n 3, 1) := by decide +kernel
theorem dL_law_248 : decode ML_law.2.1 248 = .ok (.iconst 1, 1) := by decide +kernel
theorem dL_law_249 : decode ML_law.2.1 249 = .ok (.iadd, 1) := by decide +kernel
theorem dL_law_250 : decode ML_law.2.1 250 = .ok (.iaload, 1) := by decide +kernel
theorem dL_law_251 : decode ML_law.2.1 251 = .ok (.aload_n 0, 1) := by decide +kernel
theorem dL_law_252 : decode ML_law.2.1 252 = .ok (.iload_n 3, 1) := by decide +kernel
theorem dL_law_253 : decode ML_law.2.1 253 = .ok (.iconst 2, 1) := by decide +kernel
theorem dL_law_254 : decode ML_law.2.1 254 = .ok (.iadd, 1) := by decide +kernel
theorem dL_law_255 : decode ML_law.2.1 255 = .ok (.iaload, 1) := by decide +kernel
theorem dL_law_256 : decode ML_law.2.1 256 = .ok (.aload_n 0, 1) := by decide +kernel
theorem dL_law_257 : decode ML_law.2.1 257 = .ok (.iload_n 3, 1) := by decide +kernel
theorem dL_law_258 : decode ML_law.2.1 258 = .ok (.iconst 3, 1) := by decide +kernel
theorem dL_law_259 : decode ML_law.2.1 259 = .ok (.iadd, 1) := by decide +kernel
theorem dL_law_260 : decode ML_law.2.1 260 = .ok (.iaload, 1) := by decide +kernel
theorem dL_law_261 : decode ML_law.2.1 261 = .ok (.invokevirtual 27, 3) := by decide +kernel
theorem dL_law_264 : decode ML_law.2.1 264 = .ok (.aload_n 2, 1) := by decide +kernel
theorem dL_law_265 : decode ML_law.2.1 265 = .ok (.aload_n 0, 1) := by decide +kernel
theorem dL_law_266 : decode ML_law.2.1 266 = .ok (.iload_n 3, 1) := by decide +kernel
theorem dL_law_267 : decode ML_law.2.1 267 = .ok (.iconst 1, 1) := by decide +kernel
theorem dL_law_268 : decode ML_law.2.1 268 = .ok (.iadd, 1) := by decide +kernel
theorem dL_law_269 : decode ML_law.2.1 269 = .ok (.iaload, 1) := by decide +kernel
theorem dL_law_270 : decode ML_law.2.1 270 = .ok (.aload_n 0, 1) := by decide +kernel
theorem dL_law_271 : decode ML_law.2.1 271 = .ok (.iload_n 3, 1) := by decide +kernel
theorem dL_law_272 : decode ML_law.2.1 272 = .ok (.iconst 2, 1) := by decide +kernel
theorem dL_law_273 : decode ML_law.2.1 273 = .ok (.iadd, 1) := by decide +kernel
theorem dL_law_274 : decode ML_law.2.1 274 = .ok (.iaload, 1) := by decide +kernel
theorem dL_law_275 : decode ML_law.2.1 275 = .ok (.aload_n 0, 1) := by decide +kernel
theorem dL_law_276 : decode ML_law.2.1 276 = .ok (.iload_n 3, 1) := by decide +kernel
theorem dL_law_277 : decode ML_law.2.1 277 = .ok (.iconst 3, 1) := by decide +kernel
theorem dL_law_278 : decode ML_law.2.1 278 = .ok (.iadd, 1) := by decide +kernel
theorem dL_law_279 : decode ML_law.2.1 279 = .ok (.iaload, 1) := by decide +kernel
theorem dL_law_280 : decode ML_law.2.1 280 = .ok (.invokevirtual 31, 3) := by decide +kernel
theorem dL_law_283 : decode ML_law.2.1 283 = .ok (.if_icmp .eq 524, 3) := by decide +kernel
theorem dL_law_286 : decode ML_law.2.1 286 = .ok (.iconst 0, 1) := by decide +kernel
theorem dL_law_287 : decode ML_law.2.1 287 = .ok (.ireturn, 1) := by decide +kernel
theorem dL_law_288 : decode ML_law.2.1 288 = .ok (.aload_n 1, 1) := by decide +kernel
theorem dL_law_289 : decode ML_law.2.1 289 = .ok (.aload_n 0, 1) := by decide +kernel
theorem dL_law_290 : decode ML_law.2.1 290 = .ok (.iload_n 3, 1) := by decide +kernel
theorem dL_law_291 : decode ML_law.2.1 291 = .ok (.iconst 1, 1) := by decide +kernel
theorem dL_law_292 : decode ML_law.2.1 292 = .ok (.iadd, 1) := by decide +kernel
theorem dL_law_293 : decode ML_law.2.1 293 = .ok (.iaload, 1) := by decide +kernel
theorem dL_law_294 : decode ML_law.2.1 294 = .ok (.aload_n 0, 1) := by decide +kernel
theorem dL_law_295 : decode ML_law.2.1 295 = .ok (.iload_n 3, 1) := by decide +kernel
theorem dL_law_296 : decode ML_law.2.1 296 = .ok (.iconst 2, 1) := by decide +kernel
theorem dL_law_297 : decode ML_law.2.1 297 = .ok (.iadd, 1) := by decide +kernel
theorem dL_law_298 : decode ML_law.2.1 298 = .ok (.iaload, 1) := by decide +kernel
theorem dL_law_299 : decode ML_law.2.1 299 = .ok (.invokevirtual 32, 3) := by decide +kernel
theorem dL_law_302 : decode ML_law.2.1 302 = .ok (.aload_n 2, 1) := by decide +kernel
theorem dL_law_303 : decode ML_law.2.1 303 = .ok (.aload_n 0, 1) := by decide +kernel
theorem dL_law_304 : decode ML_law.2.1 304 = .ok (.iload_n 3, 1) := by decide +kernel
theorem dL_law_305 : decode ML_law.2.1 305 = .ok (.iconst 1, 1) := by decide +kernel
theorem dL_law_306 : decode ML_law.2.1 306 = .ok (.iadd, 1) := by decide +kernel
theorem dL_law_307 : decode ML_law.2.1 307 = .ok (.iaload, 1) := by decide +kernel
theorem dL_law_308 : decode ML_law.2.1 308 = .ok (.aload_n 0, 1) := by decide +kernel
theorem dL_law_309 : decode ML_law.2.1 309 = .ok (.iload_n 3, 1) := by decide +kernel
theorem dL_law_310 : decode ML_law.2.1 310 = .ok (.iconst 2, 1) := by decide +kernel
theorem dL_law_311 : decode ML_law.2.1 311 = .ok (.iadd, 1) := by decide +kernel
theorem dL_law_312 : decode ML_law.2.1 312 = .ok (.iaload, 1) := by decide +kernel
theorem dL_law_313 : decode ML_law.2.1 313 = .ok (.invokevirtual 36, 3) := by decide +kernel
theorem dL_law_316 : decode ML_law.2.1 316 = .ok (.if_icmp .eq 491, 3) := by decide +kernel
theorem dL_law_319 : decode ML_law.2.1 319 = .ok (.iconst 0, 1) := by decide +kernel
theorem dL_law_320 : decode ML_law.2.1 320 = .ok (.ireturn, 1) := by decide +kernel
theorem dL_law_321 : decode ML_law.2.1 321 = .ok (.aload_n 1, 1) := by decide +kernel
theorem dL_law_322 : decode ML_law.2.1 322 = .ok (.aload_n 0, 1) := by decide +kernel
theorem dL_law_323 : decode ML_law.2.1 323 = .ok (.iload_n 3, 1) := by decide +kernel
theorem dL_law_324 : decode ML_law.2.1 324 = .ok (.iconst 1, 1) := by decide +kernel
theorem dL_law_325 : decode ML_law.2.1 325 = .ok (.iadd, 1) := by decide +kernel
theorem dL_law_326 : decode ML_law.2.1 326 = .ok (.iaload, 1) := by decide +kernel
theorem dL_law_327 : decode ML_law.2.1 327 = .ok (.aload_n 0, 1) := by decide +kernel
theorem dL_law_328 : decode ML_law.2.1 328 = .ok (.iload_n 3, 1) := by decide +kernel
theorem dL_law_329 : decode ML_law.2.1 329 = .ok (.iconst 2, 1) := by decide +kernel
theorem dL_law_330 : decode ML_law.2.1 330 = .ok (.iadd, 1) := by decide +kernel
theorem dL_law_331 : decode ML_law.2.1 331 = .ok (.iaload, 1) := by decide +kernel
theorem dL_law_332 : decode ML_law.2.1 332 = .ok (.aload_n 0, 1) := by decide +kernel
theorem dL_law_333 : decode ML_law.2.1 333 = .ok (.iload_n 3, 1) := by decide +kernel
theorem dL_law_334 : decode ML_law.2.1 334 = .ok (.iconst 3, 1) := by decide +kernel
theorem dL_law_335 : decode ML_law.2.1 335 = .ok (.iadd, 1) := by decide +kernel
theorem dL_law_336 : decode ML_law.2.1 336 = .ok (.iaload, 1) := by decide +kernel
theorem dL_law_337 : decode ML_law.2.1 337 = .ok (.invokevirtual 37, 3) := by decide +kernel
theorem dL_law_340 : decode ML_law.2.1 340 = .ok (.aload_n 2, 1) := by decide +kernel
theorem dL_law_341 : decode ML_law.2.1 341 = .ok (.aload_n 0, 1) := by decide +kernel
theorem dL_law_342 : decode ML_law.2.1 342 = .ok (.iload_n 3, 1) := by decide +kernel
theorem dL_law_343 : decode ML_law.2.1 343 = .ok (.iconst 1, 1) := by decide +kernel
theorem dL_law_344 : decode ML_law.2.1 344 = .ok (.iadd, 1) := by decide +kernel
theorem dL_law_345 : decode ML_law.2.1 345 = .ok (.iaload, 1) := by decide +kernel
theorem dL_law_346 : decode ML_law.2.1 346 = .ok (.aload_n 0, 1) := by decide +kernel
theorem dL_law_347 : decode ML_law.2.1 347 = .ok (.iload_n 3, 1) := by decide +kernel
theorem dL_law_348 : decode ML_law.2.1 348 = .ok (.iconst 2, 1) := by decide +kernel
theorem dL_law_349 : decode ML_law.2.1 349 = .ok (.iadd, 1) := by decide +kernel
theorem dL_law_350 : decode ML_law.2.1 350 = .ok (.iaload, 1) := by decide +kernel
theorem dL_law_351 : decode ML_law.2.1 351 = .ok (.aload_n 0, 1) := by decide +kernel
theorem dL_law_352 : decode ML_law.2.1 352 = .ok (.iload_n 3, 1) := by decide +kernel
theorem dL_law_353 : decode ML_law.2.1 353 = .ok (.iconst 3, 1) := by decide +kernel
theorem dL_law_354 : decode ML_law.2.1 354 = .ok (.iadd, 1) := by decide +kernel
theorem dL_law_355 : decode ML_law.2.1 355 = .ok (.iaload, 1) := by decide +kernel
theorem dL_law_356 : decode ML_law.2.1 356 = .ok (.invokevirtual 40, 3) := by decide +kernel
theorem dL_law_359 : decode ML_law.2.1 359 = .ok (.if_icmp .eq 448, 3) := by decide +kernel
theorem dL_law_362 : decode ML_law.2.1 362 = .ok (.iconst 0, 1) := by decide +kernel
theorem dL_law_363 : decode ML_law.2.1 363 = .ok (.ireturn, 1) := by decide +kernel
theorem dL_law_364 : decode ML_law.2.1 364 = .ok (.aload_n 1, 1) := by decide +kernel
theorem dL_law_365 : decode ML_law.2.1 365 = .ok (.aload_n 0, 1) := by decide +kernel
theorem dL_law_366 : decode ML_law.2.1 366 = .ok (.iload_n 3, 1) := by decide +kernel
theorem dL_law_367 : decode ML_law.2.1 367 = .ok (.iconst 1, 1) := by decide +kernel
theorem dL_law_368 : decode ML_law.2.1 368 = .ok (.iadd, 1) := by decide +kernel
theorem dL_law_369 : decode ML_law.2.1 369 = .ok (.iaload, 1) := by decide +kernel
theorem dL_law_370 : decode ML_law.2.1 370 = .ok (.invokevirtual 41, 3) := by decide +kernel
theorem dL_law_373 : decode ML_law.2.1 373 = .ok (.aload_n 2, 1) := by decide +kernel
theorem dL_law_374 : decode ML_law.2.1 374 = .ok (.aload_n 0, 1) := by decide +kernel
theorem dL_law_375 : decode ML_law.2.1 375 = .ok (.iload_n 3, 1) := by decide +kernel
theorem dL_law_376 : decode ML_law.2.1 376 = .ok (.iconst 1, 1) := by decide +kernel
theorem dL_law_377 : decode ML_law.2.1 377 = .ok (.iadd, 1) := by decide +kernel
theorem dL_law_378 : decode ML_law.2.1 378 = .ok (.iaload, 1) := by decide +kernel
theorem dL_law_379 : decode ML_law.2.1 379 = .ok (.invokevirtual 45, 3) := by decide +kernel
theorem dL_law_382 : decode ML_law.2.1 382 = .ok (.lcmp, 1) := by decide +kernel
theorem dL_law_383 : decode ML_law.2.1 383 = .ok (.ifCond .eq 424, 3) := by decide +kernel
theorem dL_law_386 : decode ML_law.2.1 386 = .ok (.iconst 0, 1) := by decide +kernel
theorem dL_law_387 : decode ML_law.2.1 387 = .ok (.ireturn, 1) := by decide +kernel
theorem dL_law_388 : decode ML_law.2.1 388 = .ok (.aload_n 1, 1) := by decide +kernel
theorem dL_law_389 : decode ML_law.2.1 389 = .ok (.aload_n 0, 1) := by decide +kernel
theorem dL_law_390 : decode ML_law.2.1 390 = .ok (.iload_n 3, 1) := by decide +kernel
theorem dL_law_391 : decode ML_law.2.1 391 = .ok (.iconst 1, 1) := by decide +kernel
theorem dL_law_392 : decode ML_law.2.1 392 = .ok (.iadd, 1) := by decide +kernel
theorem dL_law_393 : decode ML_law.2.1 393 = .ok (.iaload, 1) := by decide +kernel
theorem dL_law_394 : decode ML_law.2.1 394 = .ok (.aload_n 0, 1) := by decide +kernel
theorem dL_law_395 : decode ML_law.2.1 395 = .ok (.iload_n 3, 1) := by decide +kernel
theorem dL_law_396 : decode ML_law.2.1 396 = .ok (.iconst 2, 1) := by decide +kernel
theorem dL_law_397 : decode ML_law.2.1 397 = .ok (.iadd, 1) := by decide +kernel
theorem dL_law_398 : decode ML_law.2.1 398 = .ok (.iaload, 1) := by decide +kernel
theorem dL_law_399 : decode ML_law.2.1 399 = .ok (.invokevirtual 46, 3) := by decide +kernel
theorem dL_law_402 : decode ML_law.2.1 402 = .ok (.aload_n 2, 1) := by decide +kernel
theorem dL_law_403 : decode ML_law.2.1 403 = .ok (.aload_n 0, 1) := by decide +kernel
theorem dL_law_404 : decode ML_law.2.1 404 = .ok (.iload_n 3, 1) := by decide +kernel
theorem dL_law_405 : decode ML_law.2.1 405 = .ok (.iconst 1, 1) := by decide +kernel
theorem dL_law_406 : decode ML_law.2.1 406 = .ok (.iadd, 1) := by decide +kernel
theorem dL_law_407 : decode ML_law.2.1 407 = .ok (.iaload, 1) := by decide +kernel
theorem dL_law_408 : decode ML_law.2.1 408 = .ok (.aload_n 0, 1) := by decide +kernel
theorem dL_law_409 : decode ML_law.2.1 409 = .ok (.iload_n 3, 1) := by decide +kernel
theorem dL_law_410 : decode ML_law.2.1 410 = .ok (.iconst 2, 1) := by decide +kernel
theorem dL_law_411 : decode ML_law.2.1 411 = .ok (.iadd, 1) := by decide +kernel
theorem dL_law_412 : decode ML_law.2.1 412 = .ok (.iaload, 1) := by decide +kernel
theorem dL_law_413 : decode ML_law.2.1 413 = .ok (.invokevirtual 50, 3) := by decide +kernel
theorem dL_law_416 : decode ML_law.2.1 416 = .ok (.lcmp, 1) := by decide +kernel
theorem dL_law_417 : decode ML_law.2.1 417 = .ok (.ifCond .eq 390, 3) := by decide +kernel
theorem dL_law_420 : decode ML_law.2.1 420 = .ok (.iconst 0, 1) := by decide +kernel
theorem dL_law_421 : decode ML_law.2.1 421 = .ok (.ireturn, 1) := by decide +kernel
theorem dL_law_422 : decode ML_law.2.1 422 = .ok (.aload_n 1, 1) := by decide +kernel
theorem dL_law_423 : decode ML_law.2.1 423 = .ok (.aload_n 0, 1) := by decide +kernel
theorem dL_law_424 : decode ML_law.2.1 424 = .ok (.iload_n 3, 1) := by decide +kernel
theorem dL_law_425 : decode ML_law.2.1 425 = .ok (.iconst 1, 1) := by decide +kernel
theorem dL_law_426 : decode ML_law.2.1 426 = .ok (.iadd, 1) := by decide +kernel
theorem dL_law_427 : decode ML_law.2.1 427 = .ok (.iaload, 1) := by decide +kernel
theorem dL_law_428 : decode ML_law.2.1 428 = .ok (.invokevirtual 51, 3) := by decide +kernel
theorem dL_law_431 : decode ML_law.2.1 431 = .ok (.aload_n 2, 1) := by decide +kernel
theorem dL_law_432 : decode ML_law.2.1 432 = .ok (.aload_n 0, 1) := by decide +kernel
theorem dL_law_433 : decode ML_law.2.1 433 = .ok (.iload_n 3, 1) := by decide +kernel
theorem dL_law_434 : decode ML_law.2.1 434 = .ok (.iconst 1, 1) := by decide +kernel
theorem dL_law_435 : decode ML_law.2.1 435 = .ok (.iadd, 1) := by decide +kernel
theorem dL_law_436 : decode ML_law.2.1 436 = .ok (.iaload, 1) := by decide +kernel
theorem dL_law_437 : decode ML_law.2.1 437 = .ok (.invokevirtual 55, 3) := by decide +kernel
theorem dL_law_440 : decode ML_law.2.1 440 = .ok (.if_icmp .eq 367, 3) := by decide +kernel
theorem dL_law_443 : decode ML_law.2.1 443 = .ok (.iconst 0, 1) := by decide +kernel
theorem dL_law_444 : decode ML_law.2.1 444 = .ok (.ireturn, 1) := by decide +kernel
theorem dL_law_445 : decode ML_law.2.1 445 = .ok (.aload_n 1, 1) := by decide +kernel
theorem dL_law_446 : decode ML_law.2.1 446 = .ok (.aload_n 0, 1) := by decide +kernel
theorem dL_law_447 : decode ML_law.2.1 447 = .ok (.iload_n 3, 1) := by decide +kernel
theorem dL_law_448 : decode ML_law.2.1 448 = .ok (.iconst 1, 1) := by decide +kernel
theorem dL_law_449 : decode ML_law.2.1 449 = .ok (.iadd, 1) := by decide +kernel
theorem dL_law_450 : decode ML_law.2.1 450 = .ok (.iaload, 1) := by decide +kernel
theorem dL_law_451 : decode ML_law.2.1 451 = .ok (.invokevirtual 56, 3) := by decide +kernel
theorem dL_law_454 : decode ML_law.2.1 454 = .ok (.aload_n 2, 1) := by decide +kernel
theorem dL_law_455 : decode ML_law.2.1 455 = .ok (.aload_n 0, 1) := by decide +kernel
theorem dL_law_456 : decode ML_law.2.1 456 = .ok (.iload_n 3, 1) := by decide +kernel
theorem dL_law_457 : decode ML_law.2.1 457 = .ok (.iconst 1, 1) := by decide +kernel
theorem dL_law_458 : decode ML_law.2.1 458 = .ok (.iadd, 1) := by decide +kernel
theorem dL_law_459 : decode ML_law.2.1 459 = .ok (.iaload, 1) := by decide +kernel
theorem dL_law_460 : decode ML_law.2.1 460 = .ok (.invokevirtual 59, 3) := by decide +kernel
theorem dL_law_463 : decode ML_law.2.1 463 = .ok (.if_icmp .eq 344, 3) := by decide +kernel
theorem dL_law_466 : decode ML_law.2.1 466 = .ok (.iconst 0, 1) := by decide +kernel
theorem dL_law_467 : decode ML_law.2.1 467 = .ok (.ireturn, 1) := by decide +kernel
theorem dL_law_468 : decode ML_law.2.1 468 = .ok (.aload_n 1, 1) := by decide +kernel
theorem dL_law_469 : decode ML_law.2.1 469 = .ok (.aload_n 0, 1) := by decide +kernel
theorem dL_law_470 : decode ML_law.2.1 470 = .ok (.iload_n 3, 1) := by decide +kernel
theorem dL_law_471 : decode ML_law.2.1 471 = .ok (.iconst 1, 1) := by decide +kernel
theorem dL_law_472 : decode ML_law.2.1 472 = .ok (.iadd, 1) := by decide +kernel
theorem dL_law_473 : decode ML_law.2.1 473 = .ok (.iaload, 1) := by decide +kernel
theorem dL_law_474 : decode ML_law.2.1 474 = .ok (.invokevirtual 60, 3) := by decide +kernel
theorem dL_law_477 : decode ML_law.2.1 477 = .ok (.aload_n 2, 1) := by decide +kernel
theorem dL_law_478 : decode ML_law.2.1 478 = .ok (.aload_n 0, 1) := by decide +kernel
theorem dL_law_479 : decode ML_law.2.1 479 = .ok (.iload_n 3, 1) := by decide +kernel
theorem dL_law_480 : decode ML_law.2.1 480 = .ok (.iconst 1, 1) := by decide +kernel
theorem dL_law_481 : decode ML_law.2.1 481 = .ok (.iadd, 1) := by decide +kernel
theorem dL_law_482 : decode ML_law.2.1 482 = .ok (.iaload, 1) := by decide +kernel
theorem dL_law_483 : decode ML_law.2.1 483 = .ok (.invokevirtual 63, 3) := by decide +kernel
theorem dL_law_486 : decode ML_law.2.1 486 = .ok (.lcmp, 1) := by decide +kernel
theorem dL_law_487 : decode ML_law.2.1 487 = .ok (.ifCond .eq 320, 3) := by decide +kernel
theorem dL_law_490 : decode ML_law.2.1 490 = .ok (.iconst 0, 1) := by decide +kernel
theorem dL_law_491 : decode ML_law.2.1 491 = .ok (.ireturn, 1) := by decide +kernel
theorem dL_law_492 : decode ML_law.2.1 492 = .ok (.aload_n 1, 1) := by decide +kernel
theorem dL_law_493 : decode ML_law.2.1 493 = .ok (.aload_n 0, 1) := by decide +kernel
theorem dL_law_494 : decode ML_law.2.1 494 = .ok (.iload_n 3, 1) := by decide +kernel
theorem dL_law_495 : decode ML_law.2.1 495 = .ok (.iconst 1, 1) := by decide +kernel
theorem dL_law_496 : decode ML_law.2.1 496 = .ok (.iadd, 1) := by decide +kernel
theorem dL_law_497 : decode ML_law.2.1 497 = .ok (.iaload, 1) := by decide +kernel
theorem dL_law_498 : decode ML_law.2.1 498 = .ok (.invokevirtual 64, 3) := by decide +kernel
theorem dL_law_501 : decode ML_law.2.1 501 = .ok (.aload_n 2, 1) := by decide +kernel
theorem dL_law_502 : decode ML_law.2.1 502 = .ok (.aload_n 0, 1) := by decide +kernel
theorem dL_law_503 : decode ML_law.2.1 503 = .ok (.iload_n 3, 1) := by decide +kernel
theorem dL_law_504 : decode ML_law.2.1 504 = .ok (.iconst 1, 1) := by decide +kernel
theorem dL_law_505 : decode ML_law.2.1 505 = .ok (.iadd, 1) := by decide +kernel
theorem dL_law_506 : decode ML_law.2.1 506 = .ok (.iaload, 1) := by decide +kernel
theorem dL_law_507 : decode ML_law.2.1 507 = .ok (.invokevirtual 67, 3) := by decide +kernel
theorem dL_law_510 : decode ML_law.2.1 510 = .ok (.if_icmp .eq 297, 3) := by decide +kernel
theorem dL_law_513 : decode ML_law.2.1 513 = .ok (.iconst 0, 1) := by decide +kernel
theorem dL_law_514 : decode ML_law.2.1 514 = .ok (.ireturn, 1) := by decide +kernel
theorem dL_law_515 : decode ML_law.2.1 515 = .ok (.aload_n 1, 1) := by decide +kernel
theorem dL_law_516 : decode ML_law.2.1 516 = .ok (.aload_n 0, 1) := by decide +kernel
theorem dL_law_517 : decode ML_law.2.1 517 = .ok (.iload_n 3, 1) := by decide +kernel
theorem dL_law_518 : decode ML_law.2.1 518 = .ok (.iconst 1, 1) := by decide +kernel
theorem dL_law_519 : decode ML_law.2.1 519 = .ok (.iadd, 1) := by decide +kernel
theorem dL_law_520 : decode ML_law.2.1 520 = .ok (.iaload, 1) := by decide +kernel
theorem dL_law_521 : decode ML_law.2.1 521 = .ok (.invokevirtual 68, 3) := by decide +kernel
theorem dL_law_524 : decode ML_law.2.1 524 = .ok (.aload_n 2, 1) := by decide +kernel
theorem dL_law_525 : decode ML_law.2.1 525 = .ok (.aload_n 0, 1) := by decide +kernel
theorem dL_law_526 : decode ML_law.2.1 526 = .ok (.iload_n 3, 1) := by decide +kernel
theorem dL_law_527 : decode ML_law.2.1 527 = .ok (.iconst 1, 1) := by decide +kernel
theorem dL_law_528 : decode ML_law.2.1 528 = .ok (.iadd, 1) := by decide +kernel
theorem dL_law_529 : decode ML_law.2.1 529 = .ok (.iaload, 1) := by decide +kernel
theorem dL_law_530 : decode ML_law.2.1 530 = .ok (.invokevirtual 71, 3) := by decide +kernel
theorem dL_law_533 : decode ML_law.2.1 533 = .ok (.lcmp, 1) := by decide +kernel
theorem dL_law_534 : decode ML_law.2.1 534 = .ok (.ifCond .eq 273, 3) := by decide +kernel
theorem dL_law_537 : decode ML_law.2.1 537 = .ok (.iconst 0, 1) := by decide +kernel
theorem dL_law_538 : decode ML_law.2.1 538 = .ok (.ireturn, 1) := by decide +kernel
theorem dL_law_539 : decode ML_law.2.1 539 = .ok (.aload_n 1, 1) := by decide +kernel
theorem dL_law_540 : decode ML_law.2.1 540 = .ok (.aload_n 0, 1) := by decide +kernel
theorem dL_law_541 : decode ML_law.2.1 541 = .ok (.iload_n 3, 1) := by decide +kernel
theorem dL_law_542 : decode ML_law.2.1 542 = .ok (.iconst 1, 1) := by decide +kernel
theorem dL_law_543 : decode ML_law.2.1 543 = .ok (.iadd, 1) := by decide +kernel
theorem dL_law_544 : decode ML_law.2.1 544 = .ok (.iaload, 1) := by decide +kernel
theorem dL_law_545 : decode ML_law.2.1 545 = .ok (.invokevirtual 72, 3) := by decide +kernel
theorem dL_law_548 : decode ML_law.2.1 548 = .ok (.aload_n 2, 1) := by decide +kernel
theorem dL_law_549 : decode ML_law.2.1 549 = .ok (.aload_n 0, 1) := by decide +kernel
theorem dL_law_550 : decode ML_law.2.1 550 = .ok (.iload_n 3, 1) := by decide +kernel
theorem dL_law_551 : decode ML_law.2.1 551 = .ok (.iconst 1, 1) := by decide +kernel
theorem dL_law_552 : decode ML_law.2.1 552 = .ok (.iadd, 1) := by decide +kernel
theorem dL_law_553 : decode ML_law.2.1 553 = .ok (.iaload, 1) := by decide +kernel
theorem dL_law_554 : decode ML_law.2.1 554 = .ok (.invokevirtual 75, 3) := by decide +kernel
theorem dL_law_557 : decode ML_law.2.1 557 = .ok (.if_icmp .eq 250, 3) := by decide +kernel
theorem dL_law_560 : decode ML_law.2.1 560 = .ok (.iconst 0, 1) := by decide +kernel
theorem dL_law_561 : decode ML_law.2.1 561 = .ok (.ireturn, 1) := by decide +kernel
theorem dL_law_562 : decode ML_law.2.1 562 = .ok (.aload_n 1, 1) := by decide +kernel
theorem dL_law_563 : decode ML_law.2.1 563 = .ok (.invokevirtual 76, 3) := by decide +kernel
theorem dL_law_566 : decode ML_law.2.1 566 = .ok (.aload_n 2, 1) := by decide +kernel
theorem dL_law_567 : decode ML_law.2.1 567 = .ok (.invokevirtual 80, 3) := by decide +kernel
theorem dL_law_570 : decode ML_law.2.1 570 = .ok (.if_icmp .eq 237, 3) := by decide +kernel
theorem dL_law_573 : decode ML_law.2.1 573 = .ok (.iconst 0, 1) := by decide +kernel
theorem dL_law_574 : decode ML_law.2.1 574 = .ok (.ireturn, 1) := by decide +kernel
theorem dL_law_575 : decode ML_law.2.1 575 = .ok (.aload_n 1, 1) := by decide +kernel
theorem dL_law_576 : decode ML_law.2.1 576 = .ok (.aload_n 0, 1) := by decide +kernel
theorem dL_law_577 : decode ML_law.2.1 577 = .ok (.iload_n 3, 1) := by decide +kernel
theorem dL_law_578 : decode ML_law.2.1 578 = .ok (.iconst 1, 1) := by decide +kernel
theorem dL_law_579 : decode ML_law.2.1 579 = .ok (.iadd, 1) := by decide +kernel
theorem dL_law_580 : decode ML_law.2.1 580 = .ok (.iaload, 1) := by decide +kernel
theorem dL_law_581 : decode ML_law.2.1 581 = .ok (.aload_n 0, 1) := by decide +kernel
theorem dL_law_582 : decode ML_law.2.1 582 = .ok (.iload_n 3, 1) := by decide +kernel
theorem dL_law_583 : decode ML_law.2.1 583 = .ok (.iconst 2, 1) := by decide +kernel
theorem dL_law_584 : decode ML_law.2.1 584 = .ok (.iadd, 1) := by decide +kernel
theorem dL_law_585 : decode ML_law.2.1 585 = .ok (.iaload, 1) := by decide +kernel
theorem dL_law_586 : decode ML_law.2.1 586 = .ok (.aload_n 0, 1) := by decide +kernel
theorem dL_law_587 : decode ML_law.2.1 587 = .ok (.iload_n 3, 1) := by decide +kernel
theorem dL_law_588 : decode ML_law.2.1 588 = .ok (.iconst 3, 1) := by decide +kernel
theorem dL_law_589 : decode ML_law.2.1 589 = .ok (.iadd, 1) := by decide +kernel
theorem dL_law_590 : decode ML_law.2.1 590 = .ok (.iaload, 1) := by decide +kernel
theorem dL_law_591 : decode ML_law.2.1 591 = .ok (.aload_n 0, 1) := by decide +kernel
theorem dL_law_592 : decode ML_law.2.1 592 = .ok (.iload_n 3, 1) := by decide +kernel
theorem dL_law_593 : decode ML_law.2.1 593 = .ok (.iconst 4, 1) := by decide +kernel
theorem dL_law_594 : decode ML_law.2.1 594 = .ok (.iadd, 1) := by decide +kernel
theorem dL_law_595 : decode ML_law.2.1 595 = .ok (.iaload, 1) := by decide +kernel
theorem dL_law_596 : decode ML_law.2.1 596 = .ok (.aload_n 0, 1) := by decide +kernel
theorem dL_law_597 : decode ML_law.2.1 597 = .ok (.iload_n 3, 1) := by decide +kernel
theorem dL_law_598 : decode ML_law.2.1 598 = .ok (.iconst 5, 1) := by decide +kernel
theorem dL_law_599 : decode ML_law.2.1 599 = .ok (.iadd, 1) := by decide +kernel
theorem dL_law_600 : decode ML_law.2.1 600 = .ok (.iaload, 1) := by decide +kernel
theorem dL_law_601 : decode ML_law.2.1 601 = .ok (.invokevirtual 81, 3) := by decide +kernel
theorem dL_law_604 : decode ML_law.2.1 604 = .ok (.aload_n 2, 1) := by decide +kernel
theorem dL_law_605 : decode ML_law.2.1 605 = .ok (.aload_n 0, 1) := by decide +kernel
theorem dL_law_606 : decode ML_law.2.1 606 = .ok (.iload_n 3, 1) := by decide +kernel
theorem dL_law_607 : decode ML_law.2.1 607 = .ok (.iconst 1, 1) := by decide +kernel
theorem dL_law_608 : decode ML_law.2.1 608 = .ok (.iadd, 1) := by decide +kernel
theorem dL_law_609 : decode ML_law.2.1 609 = .ok (.iaload, 1) := by decide +kernel
theorem dL_law_610 : decode ML_law.2.1 610 = .ok (.aload_n 0, 1) := by decide +kernel
theorem dL_law_611 : decode ML_law.2.1 611 = .ok (.iload_n 3, 1) := by decide +kernel
theorem dL_law_612 : decode ML_law.2.1 612 = .ok (.iconst 2, 1) := by decide +kernel
theorem dL_law_613 : decode ML_law.2.1 613 = .ok (.iadd, 1) := by decide +kernel
theorem dL_law_614 : decode ML_law.2.1 614 = .ok (.iaload, 1) := by decide +kernel
theorem dL_law_615 : decode ML_law.2.1 615 = .ok (.aload_n 0, 1) := by decide +kernel
theorem dL_law_616 : decode ML_law.2.1 616 = .ok (.iload_n 3, 1) := by decide +kernel
theorem dL_law_617 : decode ML_law.2.1 617 = .ok (.iconst 3, 1) := by decide +kernel
theorem dL_law_618 : decode ML_law.2.1 618 = .ok (.iadd, 1) := by decide +kernel
theorem dL_law_619 : decode ML_law.2.1 619 = .ok (.iaload, 1) := by decide +kernel
theorem dL_law_620 : decode ML_law.2.1 620 = .ok (.aload_n 0, 1) := by decide +kernel
theorem dL_law_621 : decode ML_law.2.1 621 = .ok (.iload_n 3, 1) := by decide +kernel
theorem dL_law_622 : decode ML_law.2.1 622 = .ok (.iconst 4, 1) := by decide +kernel
theorem dL_law_623 : decode ML_law.2.1 623 = .ok (.iadd, 1) := by decide +kernel
theorem dL_law_624 : decode ML_law.2.1 624 = .ok (.iaload, 1) := by decide +kernel
theorem dL_law_625 : decode ML_law.2.1 625 = .ok (.aload_n 0, 1) := by decide +kernel
theorem dL_law_626 : decode ML_law.2.1 626 = .ok (.iload_n 3, 1) := by decide +kernel
theorem dL_law_627 : decode ML_law.2.1 627 = .ok (.iconst 5, 1) := by decide +kernel
theorem dL_law_628 : decode ML_law.2.1 628 = .ok (.iadd, 1) := by decide +kernel
theorem dL_law_629 : decode ML_law.2.1 629 = .ok (.iaload, 1) := by decide +kernel
theorem dL_law_630 : decode ML_law.2.1 630 = .ok (.invokevirtual 85, 3) := by decide +kernel
theorem dL_law_633 : decode ML_law.2.1 633 = .ok (.if_icmp .eq 174, 3) := by decide +kernel
theorem dL_law_636 : decode ML_law.2.1 636 = .ok (.iconst 0, 1) := by decide +kernel
theorem dL_law_637 : decode ML_law.2.1 637 = .ok (.ireturn, 1) := by decide +kernel
theorem dL_law_638 : decode ML_law.2.1 638 = .ok (.aload_n 1, 1) := by decide +kernel
theorem dL_law_639 : decode ML_law.2.1 639 = .ok (.aload_n 0, 1) := by decide +kernel
theorem dL_law_640 : decode ML_law.2.1 640 = .ok (.iload_n 3, 1) := by decide +kernel
theorem dL_law_641 : decode ML_law.2.1 641 = .ok (.iconst 1, 1) := by decide +kernel
theorem dL_law_642 : decode ML_law.2.1 642 = .ok (.iadd, 1) := by decide +kernel
theorem dL_law_643 : decode ML_law.2.1 643 = .ok (.iaload, 1) := by decide +kernel
theorem dL_law_644 : decode ML_law.2.1 644 = .ok (.invokevirtual 86, 3) := by decide +kernel
theorem dL_law_647 : decode ML_law.2.1 647 = .ok (.aload_n 2, 1) := by decide +kernel
theorem dL_law_648 : decode ML_law.2.1 648 = .ok (.aload_n 0, 1) := by decide +kernel
theorem dL_law_649 : decode ML_law.2.1 649 = .ok (.iload_n 3, 1) := by decide +kernel
theorem dL_law_650 : decode ML_law.2.1 650 = .ok (.iconst 1, 1) := by decide +kernel
theorem dL_law_651 : decode ML_law.2.1 651 = .ok (.iadd, 1) := by decide +kernel
theorem dL_law_652 : decode ML_law.2.1 652 = .ok (.iaload, 1) := by decide +kernel
theorem dL_law_653 : decode ML_law.2.1 653 = .ok (.invokevirtual 89, 3) := by decide +kernel
theorem dL_law_656 : decode ML_law.2.1 656 = .ok (.if_icmp .eq 151, 3) := by decide +kernel
theorem dL_law_659 : decode ML_law.2.1 659 = .ok (.iconst 0, 1) := by decide +kernel
theorem dL_law_660 : decode ML_law.2.1 660 = .ok (.ireturn, 1) := by decide +kernel
theorem dL_law_661 : decode ML_law.2.1 661 = .ok (.aload_n 1, 1) := by decide +kernel
theorem dL_law_662 : decode ML_law.2.1 662 = .ok (.aload_n 0, 1) := by decide +kernel
theorem dL_law_663 : decode ML_law.2.1 663 = .ok (.iload_n 3, 1) := by decide +kernel
theorem dL_law_664 : decode ML_law.2.1 664 = .ok (.iconst 1, 1) := by decide +kernel
theorem dL_law_665 : decode ML_law.2.1 665 = .ok (.iadd, 1) := by decide +kernel
theorem dL_law_666 : decode ML_law.2.1 666 = .ok (.iaload, 1) := by decide +kernel
theorem dL_law_667 : decode ML_law.2.1 667 = .ok (.aload_n 0, 1) := by decide +kernel
theorem dL_law_668 : decode ML_law.2.1 668 = .ok (.iload_n 3, 1) := by decide +kernel
theorem dL_law_669 : decode ML_law.2.1 669 = .ok (.iconst 2, 1) := by decide +kernel
theorem dL_law_670 : decode ML_law.2.1 670 = .ok (.iadd, 1) := by decide +kernel
theorem dL_law_671 : decode ML_law.2.1 671 = .ok (.iaload, 1) := by decide +kernel
theorem dL_law_672 : decode ML_law.2.1 672 = .ok (.invokevirtual 90, 3) := by decide +kernel
theorem dL_law_675 : decode ML_law.2.1 675 = .ok (.aload_n 2, 1) := by decide +kernel
theorem dL_law_676 : decode ML_law.2.1 676 = .ok (.aload_n 0, 1) := by decide +kernel
theorem dL_law_677 : decode ML_law.2.1 677 = .ok (.iload_n 3, 1) := by decide +kernel
theorem dL_law_678 : decode ML_law.2.1 678 = .ok (.iconst 1, 1) := by decide +kernel
theorem dL_law_679 : decode ML_law.2.1 679 = .ok (.iadd, 1) := by decide +kernel
theorem dL_law_680 : decode ML_law.2.1 680 = .ok (.iaload, 1) := by decide +kernel
theorem dL_law_681 : decode ML_law.2.1 681 = .ok (.aload_n 0, 1) := by decide +kernel
theorem dL_law_682 : decode ML_law.2.1 682 = .ok (.iload_n 3, 1) := by decide +kernel
theorem dL_law_683 : decode ML_law.2.1 683 = .ok (.iconst 2, 1) := by decide +kernel
theorem dL_law_684 : decode ML_law.2.1 684 = .ok (.iadd, 1) := by decide +kernel
theorem dL_law_685 : decode ML_law.2.1 685 = .ok (.iaload, 1) := by decide +kernel
theorem dL_law_686 : decode ML_law.2.1 686 = .ok (.invokevirtual 94, 3) := by decide +kernel
theorem dL_law_689 : decode ML_law.2.1 689 = .ok (.if_icmp .eq 118, 3) := by decide +kernel
theorem dL_law_692 : decode ML_law.2.1 692 = .ok (.iconst 0, 1) := by decide +kernel
theorem dL_law_693 : decode ML_law.2.1 693 = .ok (.ireturn, 1) := by decide +kernel
theorem dL_law_694 : decode ML_law.2.1 694 = .ok (.aload_n 1, 1) := by decide +kernel
theorem dL_law_695 : decode ML_law.2.1 695 = .ok (.aload_n 0, 1) := by decide +kernel
theorem dL_law_696 : decode ML_law.2.1 696 = .ok (.iload_n 3, 1) := by decide +kernel
theorem dL_law_697 : decode ML_law.2.1 697 = .ok (.iconst 1, 1) := by decide +kernel
theorem dL_law_698 : decode ML_law.2.1 698 = .ok (.iadd, 1) := by decide +kernel
theorem dL_law_699 : decode ML_law.2.1 699 = .ok (.iaload, 1) := by decide +kernel
theorem dL_law_700 : decode ML_law.2.1 700 = .ok (.aload_n 0, 1) := by decide +kernel
theorem dL_law_701 : decode ML_law.2.1 701 = .ok (.iload_n 3, 1) := by decide +kernel
theorem dL_law_702 : decode ML_law.2.1 702 = .ok (.iconst 2, 1) := by decide +kernel
theorem dL_law_703 : decode ML_law.2.1 703 = .ok (.iadd, 1) := by decide +kernel
theorem dL_law_704 : decode ML_law.2.1 704 = .ok (.iaload, 1) := by decide +kernel
theorem dL_law_705 : decode ML_law.2.1 705 = .ok (.invokevirtual 95, 3) := by decide +kernel
theorem dL_law_708 : decode ML_law.2.1 708 = .ok (.aload_n 2, 1) := by decide +kernel
theorem dL_law_709 : decode ML_law.2.1 709 = .ok (.aload_n 0, 1) := by decide +kernel
theorem dL_law_710 : decode ML_law.2.1 710 = .ok (.iload_n 3, 1) := by decide +kernel
theorem dL_law_711 : decode ML_law.2.1 711 = .ok (.iconst 1, 1) := by decide +kernel
theorem dL_law_712 : decode ML_law.2.1 712 = .ok (.iadd, 1) := by decide +kernel
theorem dL_law_713 : decode ML_law.2.1 713 = .ok (.iaload, 1) := by decide +kernel
theorem dL_law_714 : decode ML_law.2.1 714 = .ok (.aload_n 0, 1) := by decide +kernel
theorem dL_law_715 : decode ML_law.2.1 715 = .ok (.iload_n 3, 1) := by decide +kernel
theorem dL_law_716 : decode ML_law.2.1 716 = .ok (.iconst 2, 1) := by decide +kernel
theorem dL_law_717 : decode ML_law.2.1 717 = .ok (.iadd, 1) := by decide +kernel
theorem dL_law_718 : decode ML_law.2.1 718 = .ok (.iaload, 1) := by decide +kernel
theorem dL_law_719 : decode ML_law.2.1 719 = .ok (.invokevirtual 98, 3) := by decide +kernel
theorem dL_law_722 : decode ML_law.2.1 722 = .ok (.if_icmp .eq 85, 3) := by decide +kernel
theorem dL_law_725 : decode ML_law.2.1 725 = .ok (.iconst 0, 1) := by decide +kernel
theorem dL_law_726 : decode ML_law.2.1 726 = .ok (.ireturn, 1) := by decide +kernel
theorem dL_law_727 : decode ML_law.2.1 727 = .ok (.aload_n 1, 1) := by decide +kernel
theorem dL_law_728 : decode ML_law.2.1 728 = .ok (.aload_n 0, 1) := by decide +kernel
theorem dL_law_729 : decode ML_law.2.1 729 = .ok (.iload_n 3, 1) := by decide +kernel
theorem dL_law_730 : decode ML_law.2.1 730 = .ok (.iconst 1, 1) := by decide +kernel
theorem dL_law_731 : decode ML_law.2.1 731 = .ok (.iadd, 1) := by decide +kernel
theorem dL_law_732 : decode ML_law.2.1 732 = .ok (.iaload, 1) := by decide +kernel
theorem dL_law_733 : decode ML_law.2.1 733 = .ok (.invokevirtual 99, 3) := by decide +kernel
theorem dL_law_736 : decode ML_law.2.1 736 = .ok (.aload_n 2, 1) := by decide +kernel
theorem dL_law_737 : decode ML_law.2.1 737 = .ok (.aload_n 0, 1) := by decide +kernel
theorem dL_law_738 : decode ML_law.2.1 738 = .ok (.iload_n 3, 1) := by decide +kernel
theorem dL_law_739 : decode ML_law.2.1 739 = .ok (.iconst 1, 1) := by decide +kernel
theorem dL_law_740 : decode ML_law.2.1 740 = .ok (.iadd, 1) := by decide +kernel
theorem dL_law_741 : decode ML_law.2.1 741 = .ok (.iaload, 1) := by decide +kernel
theorem dL_law_742 : decode ML_law.2.1 742 = .ok (.invokevirtual 102, 3) := by decide +kernel
theorem dL_law_745 : decode ML_law.2.1 745 = .ok (.lcmp, 1) := by decide +kernel
theorem dL_law_746 : decode ML_law.2.1 746 = .ok (.ifCond .eq 61, 3) := by decide +kernel
theorem dL_law_749 : decode ML_law.2.1 749 = .ok (.iconst 0, 1) := by decide +kernel
theorem dL_law_750 : decode ML_law.2.1 750 = .ok (.ireturn, 1) := by decide +kernel
theorem dL_law_751 : decode ML_law.2.1 751 = .ok (.aload_n 1, 1) := by decide +kernel
theorem dL_law_752 : decode ML_law.2.1 752 = .ok (.aload_n 0, 1) := by decide +kernel
theorem dL_law_753 : decode ML_law.2.1 753 = .ok (.iload_n 3, 1) := by decide +kernel
theorem dL_law_754 : decode ML_law.2.1 754 = .ok (.iconst 1, 1) := by decide +kernel
theorem dL_law_755 : decode ML_law.2.1 755 = .ok (.iadd, 1) := by decide +kernel
theorem dL_law_756 : decode ML_law.2.1 756 = .ok (.iaload, 1) := by decide +kernel
theorem dL_law_757 : decode ML_law.2.1 757 = .ok (.aload_n 0, 1) := by decide +kernel
theorem dL_law_758 : decode ML_law.2.1 758 = .ok (.iload_n 3, 1) := by decide +kernel
theorem dL_law_759 : decode ML_law.2.1 759 = .ok (.iconst 2, 1) := by decide +kernel
theorem dL_law_760 : decode ML_law.2.1 760 = .ok (.iadd, 1) := by decide +kernel
theorem dL_law_761 : decode ML_law.2.1 761 = .ok (.iaload, 1) := by decide +kernel
theorem dL_law_762 : decode ML_law.2.1 762 = .ok (.invokevirtual 103, 3) := by decide +kernel
theorem dL_law_765 : decode ML_law.2.1 765 = .ok (.aload_n 2, 1) := by decide +kernel
theorem dL_law_766 : decode ML_law.2.1 766 = .ok (.aload_n 0, 1) := by decide +kernel
theorem dL_law_767 : decode ML_law.2.1 767 = .ok (.iload_n 3, 1) := by decide +kernel
theorem dL_law_768 : decode ML_law.2.1 768 = .ok (.iconst 1, 1) := by decide +kernel
theorem dL_law_769 : decode ML_law.2.1 769 = .ok (.iadd, 1) := by decide +kernel
theorem dL_law_770 : decode ML_law.2.1 770 = .ok (.iaload, 1) := by decide +kernel
theorem dL_law_771 : decode ML_law.2.1 771 = .ok (.aload_n 0, 1) := by decide +kernel
theorem dL_law_772 : decode ML_law.2.1 772 = .ok (.iload_n 3, 1) := by decide +kernel
theorem dL_law_773 : decode ML_law.2.1 773 = .ok (.iconst 2, 1) := by decide +kernel
theorem dL_law_774 : decode ML_law.2.1 774 = .ok (.iadd, 1) := by decide +kernel
theorem dL_law_775 : decode ML_law.2.1 775 = .ok (.iaload, 1) := by decide +kernel
theorem dL_law_776 : decode ML_law.2.1 776 = .ok (.invokevirtual 106, 3) := by decide +kernel
theorem dL_law_779 : decode ML_law.2.1 779 = .ok (.if_icmp .eq 28, 3) := by decide +kernel
theorem dL_law_782 : decode ML_law.2.1 782 = .ok (.iconst 0, 1) := by decide +kernel
theorem dL_law_783 : decode ML_law.2.1 783 = .ok (.ireturn, 1) := by decide +kernel
theorem dL_law_784 : decode ML_law.2.1 784 = .ok (.aload_n 1, 1) := by decide +kernel
theorem dL_law_785 : decode ML_law.2.1 785 = .ok (.aload_n 0, 1) := by decide +kernel
theorem dL_law_786 : decode ML_law.2.1 786 = .ok (.iload_n 3, 1) := by decide +kernel
theorem dL_law_787 : decode ML_law.2.1 787 = .ok (.iconst 1, 1) := by decide +kernel
theorem dL_law_788 : decode ML_law.2.1 788 = .ok (.iadd, 1) := by decide +kernel
theorem dL_law_789 : decode ML_law.2.1 789 = .ok (.iaload, 1) := by decide +kernel
theorem dL_law_790 : decode ML_law.2.1 790 = .ok (.invokevirtual 107, 3) := by decide +kernel
theorem dL_law_793 : decode ML_law.2.1 793 = .ok (.aload_n 2, 1) := by decide +kernel
theorem dL_law_794 : decode ML_law.2.1 794 = .ok (.aload_n 0, 1) := by decide +kernel
theorem dL_law_795 : decode ML_law.2.1 795 = .ok (.iload_n 3, 1) := by decide +kernel
theorem dL_law_796 : decode ML_law.2.1 796 = .ok (.iconst 1, 1) := by decide +kernel
theorem dL_law_797 : decode ML_law.2.1 797 = .ok (.iadd, 1) := by decide +kernel
theorem dL_law_798 : decode ML_law.2.1 798 = .ok (.iaload, 1) := by decide +kernel
theorem dL_law_799 : decode ML_law.2.1 799 = .ok (.invokevirtual 110, 3) := by decide +kernel
theorem dL_law_802 : decode ML_law.2.1 802 = .ok (.if_icmp .eq 5, 3) := by decide +kernel
theorem dL_law_805 : decode ML_law.2.1 805 = .ok (.iconst 0, 1) := by decide +kernel
theorem dL_law_806 : decode ML_law.2.1 806 = .ok (.ireturn, 1) := by decide +kernel
theorem dL_law_807 : decode ML_law.2.1 807 = .ok (.iinc 3 6, 3) := by decide +kernel
theorem dL_law_810 : decode ML_law.2.1 810 = .ok (.goto (-792), 3) := by decide +kernel
theorem dL_law_813 : decode ML_law.2.1 813 = .ok (.iconst 1, 1) := by decide +kernel
theorem dL_law_814 : decode ML_law.2.1 814 = .ok (.ireturn, 1) := by decide +kernel

/-! Methods: codes, names, decoded instructions: written by wip/whole/tools/names.py out of the claim. -/
abbrev c_L_law : ByteArray := code
theorem d_L_law_0 : decode c_L_law 0 = .ok (.new 7, 3) := by decide +kernel
theorem d_L_law_3 : decode c_L_law 3 = .ok (.dup, 1) := by decide +kernel
theorem d_L_law_4 : decode c_L_law 4 = .ok (.invokespecial 9, 3) := by decide +kernel
theorem d_L_law_7 : decode c_L_law 7 = .ok (.astore_n 1, 1) := by decide +kernel
theorem d_L_law_8 : decode c_L_law 8 = .ok (.new 10, 3) := by decide +kernel
theorem d_L_law_11 : decode c_L_law 11 = .ok (.dup, 1) := by decide +kernel
theorem d_L_law_12 : decode c_L_law 12 = .ok (.invokespecial 12, 3) := by decide +kernel
theorem d_L_law_15 : decode c_L_law 15 = .ok (.astore_n 2, 1) := by decide +kernel
theorem d_L_law_16 : decode c_L_law 16 = .ok (.iconst 0, 1) := by decide +kernel
theorem d_L_law_17 : decode c_L_law 17 = .ok (.istore_n 3, 1) := by decide +kernel
theorem d_L_law_18 : decode c_L_law 18 = .ok (.iload_n 3, 1) := by decide +kernel
theorem d_L_law_19 : decode c_L_law 19 = .ok (.aload_n 0, 1) := by decide +kernel
theorem d_L_law_20 : decode c_L_law 20 = .ok (.arraylength, 1) := by decide +kernel
theorem d_L_law_21 : decode c_L_law 21 = .ok (.iconst 5, 1) := by decide +kernel
theorem d_L_law_22 : decode c_L_law 22 = .ok (.isub, 1) := by decide +kernel
theorem d_L_law_23 : decode c_L_law 23 = .ok (.if_icmp .gt 838, 3) := by decide +kernel
theorem d_L_law_26 : decode c_L_law 26 = .ok (.aload_n 0, 1) := by decide +kernel
theorem d_L_law_27 : decode c_L_law 27 = .ok (.iload_n 3, 1) := by decide +kernel
theorem d_L_law_28 : decode c_L_law 28 = .ok (.iaload, 1) := by decide +kernel
theorem d_L_law_29 : decode c_L_law 29 = .ok (.bipush 31, 2) := by decide +kernel
theorem d_L_law_31 : decode c_L_law 31 = .ok (.iand, 1) := by decide +kernel
theorem d_L_law_32 : decode c_L_law 32 = .ok (.tableswitch 823 0 19 #[96, 139, 182, 205, 228, 261, 294, 347, 390, 413, 436, 469, 502, 536, 609, 662, 685, 744, 777, 810], 96) := by decide +kernel
theorem d_L_law_128 : decode c_L_law 128 = .ok (.aload_n 1, 1) := by decide +kernel
theorem d_L_law_129 : decode c_L_law 129 = .ok (.aload_n 0, 1) := by decide +kernel
theorem d_L_law_130 : decode c_L_law 130 = .ok (.iload_n 3, 1) := by decide +kernel
theorem d_L_law_131 : decode c_L_law 131 = .ok (.iconst 1, 1) := by decide +kernel
theorem d_L_law_132 : decode c_L_law 132 = .ok (.iadd, 1) := by decide +kernel
theorem d_L_law_133 : decode c_L_law 133 = .ok (.iaload, 1) := by decide +kernel
theorem d_L_law_134 : decode c_L_law 134 = .ok (.aload_n 0, 1) := by decide +kernel
theorem d_L_law_135 : decode c_L_law 135 = .ok (.iload_n 3, 1) := by decide +kernel
theorem d_L_law_136 : decode c_L_law 136 = .ok (.iconst 2, 1) := by decide +kernel
theorem d_L_law_137 : decode c_L_law 137 = .ok (.iadd, 1) := by decide +kernel
theorem d_L_law_138 : decode c_L_law 138 = .ok (.iaload, 1) := by decide +kernel
theorem d_L_law_139 : decode c_L_law 139 = .ok (.aload_n 0, 1) := by decide +kernel
theorem d_L_law_140 : decode c_L_law 140 = .ok (.iload_n 3, 1) := by decide +kernel
theorem d_L_law_141 : decode c_L_law 141 = .ok (.iconst 3, 1) := by decide +kernel
theorem d_L_law_142 : decode c_L_law 142 = .ok (.iadd, 1) := by decide +kernel
theorem d_L_law_143 : decode c_L_law 143 = .ok (.iaload, 1) := by decide +kernel
theorem d_L_law_144 : decode c_L_law 144 = .ok (.invokevirtual 13, 3) := by decide +kernel
theorem d_L_law_147 : decode c_L_law 147 = .ok (.aload_n 2, 1) := by decide +kernel
theorem d_L_law_148 : decode c_L_law 148 = .ok (.aload_n 0, 1) := by decide +kernel
theorem d_L_law_149 : decode c_L_law 149 = .ok (.iload_n 3, 1) := by decide +kernel
theorem d_L_law_150 : decode c_L_law 150 = .ok (.iconst 1, 1) := by decide +kernel
theorem d_L_law_151 : decode c_L_law 151 = .ok (.iadd, 1) := by decide +kernel
theorem d_L_law_152 : decode c_L_law 152 = .ok (.iaload, 1) := by decide +kernel
theorem d_L_law_153 : decode c_L_law 153 = .ok (.aload_n 0, 1) := by decide +kernel
theorem d_L_law_154 : decode c_L_law 154 = .ok (.iload_n 3, 1) := by decide +kernel
theorem d_L_law_155 : decode c_L_law 155 = .ok (.iconst 2, 1) := by decide +kernel
theorem d_L_law_156 : decode c_L_law 156 = .ok (.iadd, 1) := by decide +kernel
theorem d_L_law_157 : decode c_L_law 157 = .ok (.iaload, 1) := by decide +kernel
theorem d_L_law_158 : decode c_L_law 158 = .ok (.aload_n 0, 1) := by decide +kernel
theorem d_L_law_159 : decode c_L_law 159 = .ok (.iload_n 3, 1) := by decide +kernel
theorem d_L_law_160 : decode c_L_law 160 = .ok (.iconst 3, 1) := by decide +kernel
theorem d_L_law_161 : decode c_L_law 161 = .ok (.iadd, 1) := by decide +kernel
theorem d_L_law_162 : decode c_L_law 162 = .ok (.iaload, 1) := by decide +kernel
theorem d_L_law_163 : decode c_L_law 163 = .ok (.invokevirtual 17, 3) := by decide +kernel
theorem d_L_law_166 : decode c_L_law 166 = .ok (.if_icmp .eq 689, 3) := by decide +kernel
theorem d_L_law_169 : decode c_L_law 169 = .ok (.iconst 0, 1) := by decide +kernel
theorem d_L_law_170 : decode c_L_law 170 = .ok (.ireturn, 1) := by decide +kernel
theorem d_L_law_171 : decode c_L_law 171 = .ok (.aload_n 1, 1) := by decide +kernel
theorem d_L_law_172 : decode c_L_law 172 = .ok (.aload_n 0, 1) := by decide +kernel
theorem d_L_law_173 : decode c_L_law 173 = .ok (.iload_n 3, 1) := by decide +kernel
theorem d_L_law_174 : decode c_L_law 174 = .ok (.iconst 1, 1) := by decide +kernel
theorem d_L_law_175 : decode c_L_law 175 = .ok (.iadd, 1) := by decide +kernel
theorem d_L_law_176 : decode c_L_law 176 = .ok (.iaload, 1) := by decide +kernel
theorem d_L_law_177 : decode c_L_law 177 = .ok (.aload_n 0, 1) := by decide +kernel
theorem d_L_law_178 : decode c_L_law 178 = .ok (.iload_n 3, 1) := by decide +kernel
theorem d_L_law_179 : decode c_L_law 179 = .ok (.iconst 2, 1) := by decide +kernel
theorem d_L_law_180 : decode c_L_law 180 = .ok (.iadd, 1) := by decide +kernel
theorem d_L_law_181 : decode c_L_law 181 = .ok (.iaload, 1) := by decide +kernel
theorem d_L_law_182 : decode c_L_law 182 = .ok (.aload_n 0, 1) := by decide +kernel
theorem d_L_law_183 : decode c_L_law 183 = .ok (.iload_n 3, 1) := by decide +kernel
theorem d_L_law_184 : decode c_L_law 184 = .ok (.iconst 3, 1) := by decide +kernel
theorem d_L_law_185 : decode c_L_law 185 = .ok (.iadd, 1) := by decide +kernel
theorem d_L_law_186 : decode c_L_law 186 = .ok (.iaload, 1) := by decide +kernel
theorem d_L_law_187 : decode c_L_law 187 = .ok (.invokevirtual 18, 3) := by decide +kernel
theorem d_L_law_190 : decode c_L_law 190 = .ok (.aload_n 2, 1) := by decide +kernel
theorem d_L_law_191 : decode c_L_law 191 = .ok (.aload_n 0, 1) := by decide +kernel
theorem d_L_law_192 : decode c_L_law 192 = .ok (.iload_n 3, 1) := by decide +kernel
theorem d_L_law_193 : decode c_L_law 193 = .ok (.iconst 1, 1) := by decide +kernel
theorem d_L_law_194 : decode c_L_law 194 = .ok (.iadd, 1) := by decide +kernel
theorem d_L_law_195 : decode c_L_law 195 = .ok (.iaload, 1) := by decide +kernel
theorem d_L_law_196 : decode c_L_law 196 = .ok (.aload_n 0, 1) := by decide +kernel
theorem d_L_law_197 : decode c_L_law 197 = .ok (.iload_n 3, 1) := by decide +kernel
theorem d_L_law_198 : decode c_L_law 198 = .ok (.iconst 2, 1) := by decide +kernel
theorem d_L_law_199 : decode c_L_law 199 = .ok (.iadd, 1) := by decide +kernel
theorem d_L_law_200 : decode c_L_law 200 = .ok (.iaload, 1) := by decide +kernel
theorem d_L_law_201 : decode c_L_law 201 = .ok (.aload_n 0, 1) := by decide +kernel
theorem d_L_law_202 : decode c_L_law 202 = .ok (.iload_n 3, 1) := by decide +kernel
theorem d_L_law_203 : decode c_L_law 203 = .ok (.iconst 3, 1) := by decide +kernel
theorem d_L_law_204 : decode c_L_law 204 = .ok (.iadd, 1) := by decide +kernel
theorem d_L_law_205 : decode c_L_law 205 = .ok (.iaload, 1) := by decide +kernel
theorem d_L_law_206 : decode c_L_law 206 = .ok (.invokevirtual 21, 3) := by decide +kernel
theorem d_L_law_209 : decode c_L_law 209 = .ok (.if_icmp .eq 646, 3) := by decide +kernel
theorem d_L_law_212 : decode c_L_law 212 = .ok (.iconst 0, 1) := by decide +kernel
theorem d_L_law_213 : decode c_L_law 213 = .ok (.ireturn, 1) := by decide +kernel
theorem d_L_law_214 : decode c_L_law 214 = .ok (.aload_n 1, 1) := by decide +kernel
theorem d_L_law_215 : decode c_L_law 215 = .ok (.aload_n 0, 1) := by decide +kernel
theorem d_L_law_216 : decode c_L_law 216 = .ok (.iload_n 3, 1) := by decide +kernel
theorem d_L_law_217 : decode c_L_law 217 = .ok (.iconst 1, 1) := by decide +kernel
theorem d_L_law_218 : decode c_L_law 218 = .ok (.iadd, 1) := by decide +kernel
theorem d_L_law_219 : decode c_L_law 219 = .ok (.iaload, 1) := by decide +kernel
theorem d_L_law_220 : decode c_L_law 220 = .ok (.invokevirtual 22, 3) := by decide +kernel
theorem d_L_law_223 : decode c_L_law 223 = .ok (.aload_n 2, 1) := by decide +kernel
theorem d_L_law_224 : decode c_L_law 224 = .ok (.aload_n 0, 1) := by decide +kernel
theorem d_L_law_225 : decode c_L_law 225 = .ok (.iload_n 3, 1) := by decide +kernel
theorem d_L_law_226 : decode c_L_law 226 = .ok (.iconst 1, 1) := by decide +kernel
theorem d_L_law_227 : decode c_L_law 227 = .ok (.iadd, 1) := by decide +kernel
theorem d_L_law_228 : decode c_L_law 228 = .ok (.iaload, 1) := by decide +kernel
theorem d_L_law_229 : decode c_L_law 229 = .ok (.invokevirtual 26, 3) := by decide +kernel
theorem d_L_law_232 : decode c_L_law 232 = .ok (.if_icmp .eq 623, 3) := by decide +kernel
theorem d_L_law_235 : decode c_L_law 235 = .ok (.iconst 0, 1) := by decide +kernel
theorem d_L_law_236 : decode c_L_law 236 = .ok (.ireturn, 1) := by decide +kernel
theorem d_L_law_237 : decode c_L_law 237 = .ok (.aload_n 1, 1) := by decide +kernel
theorem d_L_law_238 : decode c_L_law 238 = .ok (.aload_n 0, 1) := by decide +kernel
theorem d_L_law_239 : decode c_L_law 239 = .ok (.iload_n 3, 1) := by decide +kernel
theorem d_L_law_240 : decode c_L_law 240 = .ok (.iconst 1, 1) := by decide +kernel
theorem d_L_law_241 : decode c_L_law 241 = .ok (.iadd, 1) := by decide +kernel
theorem d_L_law_242 : decode c_L_law 242 = .ok (.iaload, 1) := by decide +kernel
theorem d_L_law_243 : decode c_L_law 243 = .ok (.invokevirtual 27, 3) := by decide +kernel
theorem d_L_law_246 : decode c_L_law 246 = .ok (.aload_n 2, 1) := by decide +kernel
theorem d_L_law_247 : decode c_L_law 247 = .ok (.aload_n 0, 1) := by decide +kernel
theorem d_L_law_248 : decode c_L_law 248 = .ok (.iload_n 3, 1) := by decide +kernel
theorem d_L_law_249 : decode c_L_law 249 = .ok (.iconst 1, 1) := by decide +kernel
theorem d_L_law_250 : decode c_L_law 250 = .ok (.iadd, 1) := by decide +kernel
theorem d_L_law_251 : decode c_L_law 251 = .ok (.iaload, 1) := by decide +kernel
theorem d_L_law_252 : decode c_L_law 252 = .ok (.invokevirtual 30, 3) := by decide +kernel
theorem d_L_law_255 : decode c_L_law 255 = .ok (.if_icmp .eq 600, 3) := by decide +kernel
theorem d_L_law_258 : decode c_L_law 258 = .ok (.iconst 0, 1) := by decide +kernel
theorem d_L_law_259 : decode c_L_law 259 = .ok (.ireturn, 1) := by decide +kernel
theorem d_L_law_260 : decode c_L_law 260 = .ok (.aload_n 1, 1) := by decide +kernel
theorem d_L_law_261 : decode c_L_law 261 = .ok (.aload_n 0, 1) := by decide +kernel
theorem d_L_law_262 : decode c_L_law 262 = .ok (.iload_n 3, 1) := by decide +kernel
theorem d_L_law_263 : decode c_L_law 263 = .ok (.iconst 1, 1) := by decide +kernel
theorem d_L_law_264 : decode c_L_law 264 = .ok (.iadd, 1) := by decide +kernel
theorem d_L_law_265 : decode c_L_law 265 = .ok (.iaload, 1) := by decide +kernel
theorem d_L_law_266 : decode c_L_law 266 = .ok (.aload_n 0, 1) := by decide +kernel
theorem d_L_law_267 : decode c_L_law 267 = .ok (.iload_n 3, 1) := by decide +kernel
theorem d_L_law_268 : decode c_L_law 268 = .ok (.iconst 2, 1) := by decide +kernel
theorem d_L_law_269 : decode c_L_law 269 = .ok (.iadd, 1) := by decide +kernel
theorem d_L_law_270 : decode c_L_law 270 = .ok (.iaload, 1) := by decide +kernel
theorem d_L_law_271 : decode c_L_law 271 = .ok (.invokevirtual 31, 3) := by decide +kernel
theorem d_L_law_274 : decode c_L_law 274 = .ok (.aload_n 2, 1) := by decide +kernel
theorem d_L_law_275 : decode c_L_law 275 = .ok (.aload_n 0, 1) := by decide +kernel
theorem d_L_law_276 : decode c_L_law 276 = .ok (.iload_n 3, 1) := by decide +kernel
theorem d_L_law_277 : decode c_L_law 277 = .ok (.iconst 1, 1) := by decide +kernel
theorem d_L_law_278 : decode c_L_law 278 = .ok (.iadd, 1) := by decide +kernel
theorem d_L_law_279 : decode c_L_law 279 = .ok (.iaload, 1) := by decide +kernel
theorem d_L_law_280 : decode c_L_law 280 = .ok (.aload_n 0, 1) := by decide +kernel
theorem d_L_law_281 : decode c_L_law 281 = .ok (.iload_n 3, 1) := by decide +kernel
theorem d_L_law_282 : decode c_L_law 282 = .ok (.iconst 2, 1) := by decide +kernel
theorem d_L_law_283 : decode c_L_law 283 = .ok (.iadd, 1) := by decide +kernel
theorem d_L_law_284 : decode c_L_law 284 = .ok (.iaload, 1) := by decide +kernel
theorem d_L_law_285 : decode c_L_law 285 = .ok (.invokevirtual 35, 3) := by decide +kernel
theorem d_L_law_288 : decode c_L_law 288 = .ok (.if_icmp .eq 567, 3) := by decide +kernel
theorem d_L_law_291 : decode c_L_law 291 = .ok (.iconst 0, 1) := by decide +kernel
theorem d_L_law_292 : decode c_L_law 292 = .ok (.ireturn, 1) := by decide +kernel
theorem d_L_law_293 : decode c_L_law 293 = .ok (.aload_n 1, 1) := by decide +kernel
theorem d_L_law_294 : decode c_L_law 294 = .ok (.aload_n 0, 1) := by decide +kernel
theorem d_L_law_295 : decode c_L_law 295 = .ok (.iload_n 3, 1) := by decide +kernel
theorem d_L_law_296 : decode c_L_law 296 = .ok (.iconst 1, 1) := by decide +kernel
theorem d_L_law_297 : decode c_L_law 297 = .ok (.iadd, 1) := by decide +kernel
theorem d_L_law_298 : decode c_L_law 298 = .ok (.iaload, 1) := by decide +kernel
theorem d_L_law_299 : decode c_L_law 299 = .ok (.aload_n 0, 1) := by decide +kernel
theorem d_L_law_300 : decode c_L_law 300 = .ok (.iload_n 3, 1) := by decide +kernel
theorem d_L_law_301 : decode c_L_law 301 = .ok (.iconst 2, 1) := by decide +kernel
theorem d_L_law_302 : decode c_L_law 302 = .ok (.iadd, 1) := by decide +kernel
theorem d_L_law_303 : decode c_L_law 303 = .ok (.iaload, 1) := by decide +kernel
theorem d_L_law_304 : decode c_L_law 304 = .ok (.invokevirtual 36, 3) := by decide +kernel
theorem d_L_law_307 : decode c_L_law 307 = .ok (.aload_n 2, 1) := by decide +kernel
theorem d_L_law_308 : decode c_L_law 308 = .ok (.aload_n 0, 1) := by decide +kernel
theorem d_L_law_309 : decode c_L_law 309 = .ok (.iload_n 3, 1) := by decide +kernel
theorem d_L_law_310 : decode c_L_law 310 = .ok (.iconst 1, 1) := by decide +kernel
theorem d_L_law_311 : decode c_L_law 311 = .ok (.iadd, 1) := by decide +kernel
theorem d_L_law_312 : decode c_L_law 312 = .ok (.iaload, 1) := by decide +kernel
theorem d_L_law_313 : decode c_L_law 313 = .ok (.aload_n 0, 1) := by decide +kernel
theorem d_L_law_314 : decode c_L_law 314 = .ok (.iload_n 3, 1) := by decide +kernel
theorem d_L_law_315 : decode c_L_law 315 = .ok (.iconst 2, 1) := by decide +kernel
theorem d_L_law_316 : decode c_L_law 316 = .ok (.iadd, 1) := by decide +kernel
theorem d_L_law_317 : decode c_L_law 317 = .ok (.iaload, 1) := by decide +kernel
theorem d_L_law_318 : decode c_L_law 318 = .ok (.invokevirtual 39, 3) := by decide +kernel
theorem d_L_law_321 : decode c_L_law 321 = .ok (.if_icmp .eq 534, 3) := by decide +kernel
theorem d_L_law_324 : decode c_L_law 324 = .ok (.iconst 0, 1) := by decide +kernel
theorem d_L_law_325 : decode c_L_law 325 = .ok (.ireturn, 1) := by decide +kernel
theorem d_L_law_326 : decode c_L_law 326 = .ok (.aload_n 1, 1) := by decide +kernel
theorem d_L_law_327 : decode c_L_law 327 = .ok (.aload_n 0, 1) := by decide +kernel
theorem d_L_law_328 : decode c_L_law 328 = .ok (.iload_n 3, 1) := by decide +kernel
theorem d_L_law_329 : decode c_L_law 329 = .ok (.iconst 1, 1) := by decide +kernel
theorem d_L_law_330 : decode c_L_law 330 = .ok (.iadd, 1) := by decide +kernel
theorem d_L_law_331 : decode c_L_law 331 = .ok (.iaload, 1) := by decide +kernel
theorem d_L_law_332 : decode c_L_law 332 = .ok (.aload_n 0, 1) := by decide +kernel
theorem d_L_law_333 : decode c_L_law 333 = .ok (.iload_n 3, 1) := by decide +kernel
theorem d_L_law_334 : decode c_L_law 334 = .ok (.iconst 2, 1) := by decide +kernel
theorem d_L_law_335 : decode c_L_law 335 = .ok (.iadd, 1) := by decide +kernel
theorem d_L_law_336 : decode c_L_law 336 = .ok (.iaload, 1) := by decide +kernel
theorem d_L_law_337 : decode c_L_law 337 = .ok (.aload_n 0, 1) := by decide +kernel
theorem d_L_law_338 : decode c_L_law 338 = .ok (.iload_n 3, 1) := by decide +kernel
theorem d_L_law_339 : decode c_L_law 339 = .ok (.iconst 3, 1) := by decide +kernel
theorem d_L_law_340 : decode c_L_law 340 = .ok (.iadd, 1) := by decide +kernel
theorem d_L_law_341 : decode c_L_law 341 = .ok (.iaload, 1) := by decide +kernel
theorem d_L_law_342 : decode c_L_law 342 = .ok (.aload_n 0, 1) := by decide +kernel
theorem d_L_law_343 : decode c_L_law 343 = .ok (.iload_n 3, 1) := by decide +kernel
theorem d_L_law_344 : decode c_L_law 344 = .ok (.iconst 4, 1) := by decide +kernel
theorem d_L_law_345 : decode c_L_law 345 = .ok (.iadd, 1) := by decide +kernel
theorem d_L_law_346 : decode c_L_law 346 = .ok (.iaload, 1) := by decide +kernel
theorem d_L_law_347 : decode c_L_law 347 = .ok (.invokevirtual 40, 3) := by decide +kernel
theorem d_L_law_350 : decode c_L_law 350 = .ok (.aload_n 2, 1) := by decide +kernel
theorem d_L_law_351 : decode c_L_law 351 = .ok (.aload_n 0, 1) := by decide +kernel
theorem d_L_law_352 : decode c_L_law 352 = .ok (.iload_n 3, 1) := by decide +kernel
theorem d_L_law_353 : decode c_L_law 353 = .ok (.iconst 1, 1) := by decide +kernel
theorem d_L_law_354 : decode c_L_law 354 = .ok (.iadd, 1) := by decide +kernel
theorem d_L_law_355 : decode c_L_law 355 = .ok (.iaload, 1) := by decide +kernel
theorem d_L_law_356 : decode c_L_law 356 = .ok (.aload_n 0, 1) := by decide +kernel
theorem d_L_law_357 : decode c_L_law 357 = .ok (.iload_n 3, 1) := by decide +kernel
theorem d_L_law_358 : decode c_L_law 358 = .ok (.iconst 2, 1) := by decide +kernel
theorem d_L_law_359 : decode c_L_law 359 = .ok (.iadd, 1) := by decide +kernel
theorem d_L_law_360 : decode c_L_law 360 = .ok (.iaload, 1) := by decide +kernel
theorem d_L_law_361 : decode c_L_law 361 = .ok (.aload_n 0, 1) := by decide +kernel
theorem d_L_law_362 : decode c_L_law 362 = .ok (.iload_n 3, 1) := by decide +kernel
theorem d_L_law_363 : decode c_L_law 363 = .ok (.iconst 3, 1) := by decide +kernel
theorem d_L_law_364 : decode c_L_law 364 = .ok (.iadd, 1) := by decide +kernel
theorem d_L_law_365 : decode c_L_law 365 = .ok (.iaload, 1) := by decide +kernel
theorem d_L_law_366 : decode c_L_law 366 = .ok (.aload_n 0, 1) := by decide +kernel
theorem d_L_law_367 : decode c_L_law 367 = .ok (.iload_n 3, 1) := by decide +kernel
theorem d_L_law_368 : decode c_L_law 368 = .ok (.iconst 4, 1) := by decide +kernel
theorem d_L_law_369 : decode c_L_law 369 = .ok (.iadd, 1) := by decide +kernel
theorem d_L_law_370 : decode c_L_law 370 = .ok (.iaload, 1) := by decide +kernel
theorem d_L_law_371 : decode c_L_law 371 = .ok (.invokevirtual 44, 3) := by decide +kernel
theorem d_L_law_374 : decode c_L_law 374 = .ok (.if_icmp .eq 481, 3) := by decide +kernel
theorem d_L_law_377 : decode c_L_law 377 = .ok (.iconst 0, 1) := by decide +kernel
theorem d_L_law_378 : decode c_L_law 378 = .ok (.ireturn, 1) := by decide +kernel
theorem d_L_law_379 : decode c_L_law 379 = .ok (.aload_n 1, 1) := by decide +kernel
theorem d_L_law_380 : decode c_L_law 380 = .ok (.aload_n 0, 1) := by decide +kernel
theorem d_L_law_381 : decode c_L_law 381 = .ok (.iload_n 3, 1) := by decide +kernel
theorem d_L_law_382 : decode c_L_law 382 = .ok (.iconst 1, 1) := by decide +kernel
theorem d_L_law_383 : decode c_L_law 383 = .ok (.iadd, 1) := by decide +kernel
theorem d_L_law_384 : decode c_L_law 384 = .ok (.iaload, 1) := by decide +kernel
theorem d_L_law_385 : decode c_L_law 385 = .ok (.aload_n 0, 1) := by decide +kernel
theorem d_L_law_386 : decode c_L_law 386 = .ok (.iload_n 3, 1) := by decide +kernel
theorem d_L_law_387 : decode c_L_law 387 = .ok (.iconst 2, 1) := by decide +kernel
theorem d_L_law_388 : decode c_L_law 388 = .ok (.iadd, 1) := by decide +kernel
theorem d_L_law_389 : decode c_L_law 389 = .ok (.iaload, 1) := by decide +kernel
theorem d_L_law_390 : decode c_L_law 390 = .ok (.aload_n 0, 1) := by decide +kernel
theorem d_L_law_391 : decode c_L_law 391 = .ok (.iload_n 3, 1) := by decide +kernel
theorem d_L_law_392 : decode c_L_law 392 = .ok (.iconst 3, 1) := by decide +kernel
theorem d_L_law_393 : decode c_L_law 393 = .ok (.iadd, 1) := by decide +kernel
theorem d_L_law_394 : decode c_L_law 394 = .ok (.iaload, 1) := by decide +kernel
theorem d_L_law_395 : decode c_L_law 395 = .ok (.invokevirtual 45, 3) := by decide +kernel
theorem d_L_law_398 : decode c_L_law 398 = .ok (.aload_n 2, 1) := by decide +kernel
theorem d_L_law_399 : decode c_L_law 399 = .ok (.aload_n 0, 1) := by decide +kernel
theorem d_L_law_400 : decode c_L_law 400 = .ok (.iload_n 3, 1) := by decide +kernel
theorem d_L_law_401 : decode c_L_law 401 = .ok (.iconst 1, 1) := by decide +kernel
theorem d_L_law_402 : decode c_L_law 402 = .ok (.iadd, 1) := by decide +kernel
theorem d_L_law_403 : decode c_L_law 403 = .ok (.iaload, 1) := by decide +kernel
theorem d_L_law_404 : decode c_L_law 404 = .ok (.aload_n 0, 1) := by decide +kernel
theorem d_L_law_405 : decode c_L_law 405 = .ok (.iload_n 3, 1) := by decide +kernel
theorem d_L_law_406 : decode c_L_law 406 = .ok (.iconst 2, 1) := by decide +kernel
theorem d_L_law_407 : decode c_L_law 407 = .ok (.iadd, 1) := by decide +kernel
theorem d_L_law_408 : decode c_L_law 408 = .ok (.iaload, 1) := by decide +kernel
theorem d_L_law_409 : decode c_L_law 409 = .ok (.aload_n 0, 1) := by decide +kernel
theorem d_L_law_410 : decode c_L_law 410 = .ok (.iload_n 3, 1) := by decide +kernel
theorem d_L_law_411 : decode c_L_law 411 = .ok (.iconst 3, 1) := by decide +kernel
theorem d_L_law_412 : decode c_L_law 412 = .ok (.iadd, 1) := by decide +kernel
theorem d_L_law_413 : decode c_L_law 413 = .ok (.iaload, 1) := by decide +kernel
theorem d_L_law_414 : decode c_L_law 414 = .ok (.invokevirtual 48, 3) := by decide +kernel
theorem d_L_law_417 : decode c_L_law 417 = .ok (.if_icmp .eq 438, 3) := by decide +kernel
theorem d_L_law_420 : decode c_L_law 420 = .ok (.iconst 0, 1) := by decide +kernel
theorem d_L_law_421 : decode c_L_law 421 = .ok (.ireturn, 1) := by decide +kernel
theorem d_L_law_422 : decode c_L_law 422 = .ok (.aload_n 1, 1) := by decide +kernel
theorem d_L_law_423 : decode c_L_law 423 = .ok (.aload_n 0, 1) := by decide +kernel
theorem d_L_law_424 : decode c_L_law 424 = .ok (.iload_n 3, 1) := by decide +kernel
theorem d_L_law_425 : decode c_L_law 425 = .ok (.iconst 1, 1) := by decide +kernel
theorem d_L_law_426 : decode c_L_law 426 = .ok (.iadd, 1) := by decide +kernel
theorem d_L_law_427 : decode c_L_law 427 = .ok (.iaload, 1) := by decide +kernel
theorem d_L_law_428 : decode c_L_law 428 = .ok (.invokevirtual 49, 3) := by decide +kernel
theorem d_L_law_431 : decode c_L_law 431 = .ok (.aload_n 2, 1) := by decide +kernel
theorem d_L_law_432 : decode c_L_law 432 = .ok (.aload_n 0, 1) := by decide +kernel
theorem d_L_law_433 : decode c_L_law 433 = .ok (.iload_n 3, 1) := by decide +kernel
theorem d_L_law_434 : decode c_L_law 434 = .ok (.iconst 1, 1) := by decide +kernel
theorem d_L_law_435 : decode c_L_law 435 = .ok (.iadd, 1) := by decide +kernel
theorem d_L_law_436 : decode c_L_law 436 = .ok (.iaload, 1) := by decide +kernel
theorem d_L_law_437 : decode c_L_law 437 = .ok (.invokevirtual 52, 3) := by decide +kernel
theorem d_L_law_440 : decode c_L_law 440 = .ok (.if_icmp .eq 415, 3) := by decide +kernel
theorem d_L_law_443 : decode c_L_law 443 = .ok (.iconst 0, 1) := by decide +kernel
theorem d_L_law_444 : decode c_L_law 444 = .ok (.ireturn, 1) := by decide +kernel
theorem d_L_law_445 : decode c_L_law 445 = .ok (.aload_n 1, 1) := by decide +kernel
theorem d_L_law_446 : decode c_L_law 446 = .ok (.aload_n 0, 1) := by decide +kernel
theorem d_L_law_447 : decode c_L_law 447 = .ok (.iload_n 3, 1) := by decide +kernel
theorem d_L_law_448 : decode c_L_law 448 = .ok (.iconst 1, 1) := by decide +kernel
theorem d_L_law_449 : decode c_L_law 449 = .ok (.iadd, 1) := by decide +kernel
theorem d_L_law_450 : decode c_L_law 450 = .ok (.iaload, 1) := by decide +kernel
theorem d_L_law_451 : decode c_L_law 451 = .ok (.invokevirtual 53, 3) := by decide +kernel
theorem d_L_law_454 : decode c_L_law 454 = .ok (.aload_n 2, 1) := by decide +kernel
theorem d_L_law_455 : decode c_L_law 455 = .ok (.aload_n 0, 1) := by decide +kernel
theorem d_L_law_456 : decode c_L_law 456 = .ok (.iload_n 3, 1) := by decide +kernel
theorem d_L_law_457 : decode c_L_law 457 = .ok (.iconst 1, 1) := by decide +kernel
theorem d_L_law_458 : decode c_L_law 458 = .ok (.iadd, 1) := by decide +kernel
theorem d_L_law_459 : decode c_L_law 459 = .ok (.iaload, 1) := by decide +kernel
theorem d_L_law_460 : decode c_L_law 460 = .ok (.invokevirtual 56, 3) := by decide +kernel
theorem d_L_law_463 : decode c_L_law 463 = .ok (.if_icmp .eq 392, 3) := by decide +kernel
theorem d_L_law_466 : decode c_L_law 466 = .ok (.iconst 0, 1) := by decide +kernel
theorem d_L_law_467 : decode c_L_law 467 = .ok (.ireturn, 1) := by decide +kernel
theorem d_L_law_468 : decode c_L_law 468 = .ok (.aload_n 1, 1) := by decide +kernel
theorem d_L_law_469 : decode c_L_law 469 = .ok (.aload_n 0, 1) := by decide +kernel
theorem d_L_law_470 : decode c_L_law 470 = .ok (.iload_n 3, 1) := by decide +kernel
theorem d_L_law_471 : decode c_L_law 471 = .ok (.iconst 1, 1) := by decide +kernel
theorem d_L_law_472 : decode c_L_law 472 = .ok (.iadd, 1) := by decide +kernel
theorem d_L_law_473 : decode c_L_law 473 = .ok (.iaload, 1) := by decide +kernel
theorem d_L_law_474 : decode c_L_law 474 = .ok (.aload_n 0, 1) := by decide +kernel
theorem d_L_law_475 : decode c_L_law 475 = .ok (.iload_n 3, 1) := by decide +kernel
theorem d_L_law_476 : decode c_L_law 476 = .ok (.iconst 2, 1) := by decide +kernel
theorem d_L_law_477 : decode c_L_law 477 = .ok (.iadd, 1) := by decide +kernel
theorem d_L_law_478 : decode c_L_law 478 = .ok (.iaload, 1) := by decide +kernel
theorem d_L_law_479 : decode c_L_law 479 = .ok (.invokevirtual 57, 3) := by decide +kernel
theorem d_L_law_482 : decode c_L_law 482 = .ok (.aload_n 2, 1) := by decide +kernel
theorem d_L_law_483 : decode c_L_law 483 = .ok (.aload_n 0, 1) := by decide +kernel
theorem d_L_law_484 : decode c_L_law 484 = .ok (.iload_n 3, 1) := by decide +kernel
theorem d_L_law_485 : decode c_L_law 485 = .ok (.iconst 1, 1) := by decide +kernel
theorem d_L_law_486 : decode c_L_law 486 = .ok (.iadd, 1) := by decide +kernel
theorem d_L_law_487 : decode c_L_law 487 = .ok (.iaload, 1) := by decide +kernel
theorem d_L_law_488 : decode c_L_law 488 = .ok (.aload_n 0, 1) := by decide +kernel
theorem d_L_law_489 : decode c_L_law 489 = .ok (.iload_n 3, 1) := by decide +kernel
theorem d_L_law_490 : decode c_L_law 490 = .ok (.iconst 2, 1) := by decide +kernel
theorem d_L_law_491 : decode c_L_law 491 = .ok (.iadd, 1) := by decide +kernel
theorem d_L_law_492 : decode c_L_law 492 = .ok (.iaload, 1) := by decide +kernel
theorem d_L_law_493 : decode c_L_law 493 = .ok (.invokevirtual 60, 3) := by decide +kernel
theorem d_L_law_496 : decode c_L_law 496 = .ok (.if_icmp .eq 359, 3) := by decide +kernel
theorem d_L_law_499 : decode c_L_law 499 = .ok (.iconst 0, 1) := by decide +kernel
theorem d_L_law_500 : decode c_L_law 500 = .ok (.ireturn, 1) := by decide +kernel
theorem d_L_law_501 : decode c_L_law 501 = .ok (.aload_n 1, 1) := by decide +kernel
theorem d_L_law_502 : decode c_L_law 502 = .ok (.aload_n 0, 1) := by decide +kernel
theorem d_L_law_503 : decode c_L_law 503 = .ok (.iload_n 3, 1) := by decide +kernel
theorem d_L_law_504 : decode c_L_law 504 = .ok (.iconst 1, 1) := by decide +kernel
theorem d_L_law_505 : decode c_L_law 505 = .ok (.iadd, 1) := by decide +kernel
theorem d_L_law_506 : decode c_L_law 506 = .ok (.iaload, 1) := by decide +kernel
theorem d_L_law_507 : decode c_L_law 507 = .ok (.aload_n 0, 1) := by decide +kernel
theorem d_L_law_508 : decode c_L_law 508 = .ok (.iload_n 3, 1) := by decide +kernel
theorem d_L_law_509 : decode c_L_law 509 = .ok (.iconst 2, 1) := by decide +kernel
theorem d_L_law_510 : decode c_L_law 510 = .ok (.iadd, 1) := by decide +kernel
theorem d_L_law_511 : decode c_L_law 511 = .ok (.iaload, 1) := by decide +kernel
theorem d_L_law_512 : decode c_L_law 512 = .ok (.invokevirtual 61, 3) := by decide +kernel
theorem d_L_law_515 : decode c_L_law 515 = .ok (.aload_n 2, 1) := by decide +kernel
theorem d_L_law_516 : decode c_L_law 516 = .ok (.aload_n 0, 1) := by decide +kernel
theorem d_L_law_517 : decode c_L_law 517 = .ok (.iload_n 3, 1) := by decide +kernel
theorem d_L_law_518 : decode c_L_law 518 = .ok (.iconst 1, 1) := by decide +kernel
theorem d_L_law_519 : decode c_L_law 519 = .ok (.iadd, 1) := by decide +kernel
theorem d_L_law_520 : decode c_L_law 520 = .ok (.iaload, 1) := by decide +kernel
theorem d_L_law_521 : decode c_L_law 521 = .ok (.aload_n 0, 1) := by decide +kernel
theorem d_L_law_522 : decode c_L_law 522 = .ok (.iload_n 3, 1) := by decide +kernel
theorem d_L_law_523 : decode c_L_law 523 = .ok (.iconst 2, 1) := by decide +kernel
theorem d_L_law_524 : decode c_L_law 524 = .ok (.iadd, 1) := by decide +kernel
theorem d_L_law_525 : decode c_L_law 525 = .ok (.iaload, 1) := by decide +kernel
theorem d_L_law_526 : decode c_L_law 526 = .ok (.invokevirtual 64, 3) := by decide +kernel
theorem d_L_law_529 : decode c_L_law 529 = .ok (.if_icmp .eq 326, 3) := by decide +kernel
theorem d_L_law_532 : decode c_L_law 532 = .ok (.iconst 0, 1) := by decide +kernel
theorem d_L_law_533 : decode c_L_law 533 = .ok (.ireturn, 1) := by decide +kernel
theorem d_L_law_534 : decode c_L_law 534 = .ok (.aload_n 1, 1) := by decide +kernel
theorem d_L_law_535 : decode c_L_law 535 = .ok (.aload_n 0, 1) := by decide +kernel
theorem d_L_law_536 : decode c_L_law 536 = .ok (.iload_n 3, 1) := by decide +kernel
theorem d_L_law_537 : decode c_L_law 537 = .ok (.iconst 1, 1) := by decide +kernel
theorem d_L_law_538 : decode c_L_law 538 = .ok (.iadd, 1) := by decide +kernel
theorem d_L_law_539 : decode c_L_law 539 = .ok (.iaload, 1) := by decide +kernel
theorem d_L_law_540 : decode c_L_law 540 = .ok (.aload_n 0, 1) := by decide +kernel
theorem d_L_law_541 : decode c_L_law 541 = .ok (.iload_n 3, 1) := by decide +kernel
theorem d_L_law_542 : decode c_L_law 542 = .ok (.iconst 2, 1) := by decide +kernel
theorem d_L_law_543 : decode c_L_law 543 = .ok (.iadd, 1) := by decide +kernel
theorem d_L_law_544 : decode c_L_law 544 = .ok (.iaload, 1) := by decide +kernel
theorem d_L_law_545 : decode c_L_law 545 = .ok (.invokevirtual 65, 3) := by decide +kernel
theorem d_L_law_548 : decode c_L_law 548 = .ok (.aload_n 2, 1) := by decide +kernel
theorem d_L_law_549 : decode c_L_law 549 = .ok (.aload_n 0, 1) := by decide +kernel
theorem d_L_law_550 : decode c_L_law 550 = .ok (.iload_n 3, 1) := by decide +kernel
theorem d_L_law_551 : decode c_L_law 551 = .ok (.iconst 1, 1) := by decide +kernel
theorem d_L_law_552 : decode c_L_law 552 = .ok (.iadd, 1) := by decide +kernel
theorem d_L_law_553 : decode c_L_law 553 = .ok (.iaload, 1) := by decide +kernel
theorem d_L_law_554 : decode c_L_law 554 = .ok (.aload_n 0, 1) := by decide +kernel
theorem d_L_law_555 : decode c_L_law 555 = .ok (.iload_n 3, 1) := by decide +kernel
theorem d_L_law_556 : decode c_L_law 556 = .ok (.iconst 2, 1) := by decide +kernel
theorem d_L_law_557 : decode c_L_law 557 = .ok (.iadd, 1) := by decide +kernel
theorem d_L_law_558 : decode c_L_law 558 = .ok (.iaload, 1) := by decide +kernel
theorem d_L_law_559 : decode c_L_law 559 = .ok (.invokevirtual 69, 3) := by decide +kernel
theorem d_L_law_562 : decode c_L_law 562 = .ok (.lcmp, 1) := by decide +kernel
theorem d_L_law_563 : decode c_L_law 563 = .ok (.ifCond .eq 292, 3) := by decide +kernel
theorem d_L_law_566 : decode c_L_law 566 = .ok (.iconst 0, 1) := by decide +kernel
theorem d_L_law_567 : decode c_L_law 567 = .ok (.ireturn, 1) := by decide +kernel
theorem d_L_law_568 : decode c_L_law 568 = .ok (.aload_n 1, 1) := by decide +kernel
theorem d_L_law_569 : decode c_L_law 569 = .ok (.aload_n 0, 1) := by decide +kernel
theorem d_L_law_570 : decode c_L_law 570 = .ok (.iload_n 3, 1) := by decide +kernel
theorem d_L_law_571 : decode c_L_law 571 = .ok (.iconst 1, 1) := by decide +kernel
theorem d_L_law_572 : decode c_L_law 572 = .ok (.iadd, 1) := by decide +kernel
theorem d_L_law_573 : decode c_L_law 573 = .ok (.iaload, 1) := by decide +kernel
theorem d_L_law_574 : decode c_L_law 574 = .ok (.aload_n 0, 1) := by decide +kernel
theorem d_L_law_575 : decode c_L_law 575 = .ok (.iload_n 3, 1) := by decide +kernel
theorem d_L_law_576 : decode c_L_law 576 = .ok (.iconst 2, 1) := by decide +kernel
theorem d_L_law_577 : decode c_L_law 577 = .ok (.iadd, 1) := by decide +kernel
theorem d_L_law_578 : decode c_L_law 578 = .ok (.iaload, 1) := by decide +kernel
theorem d_L_law_579 : decode c_L_law 579 = .ok (.aload_n 0, 1) := by decide +kernel
theorem d_L_law_580 : decode c_L_law 580 = .ok (.iload_n 3, 1) := by decide +kernel
theorem d_L_law_581 : decode c_L_law 581 = .ok (.iconst 3, 1) := by decide +kernel
theorem d_L_law_582 : decode c_L_law 582 = .ok (.iadd, 1) := by decide +kernel
theorem d_L_law_583 : decode c_L_law 583 = .ok (.iaload, 1) := by decide +kernel
theorem d_L_law_584 : decode c_L_law 584 = .ok (.i2l, 1) := by decide +kernel
theorem d_L_law_585 : decode c_L_law 585 = .ok (.bipush 32, 2) := by decide +kernel
theorem d_L_law_587 : decode c_L_law 587 = .ok (.lshl, 1) := by decide +kernel
theorem d_L_law_588 : decode c_L_law 588 = .ok (.aload_n 0, 1) := by decide +kernel
theorem d_L_law_589 : decode c_L_law 589 = .ok (.iload_n 3, 1) := by decide +kernel
theorem d_L_law_590 : decode c_L_law 590 = .ok (.iconst 4, 1) := by decide +kernel
theorem d_L_law_591 : decode c_L_law 591 = .ok (.iadd, 1) := by decide +kernel
theorem d_L_law_592 : decode c_L_law 592 = .ok (.iaload, 1) := by decide +kernel
theorem d_L_law_593 : decode c_L_law 593 = .ok (.i2l, 1) := by decide +kernel
theorem d_L_law_594 : decode c_L_law 594 = .ok (.ldc2_w 70, 3) := by decide +kernel
theorem d_L_law_597 : decode c_L_law 597 = .ok (.land, 1) := by decide +kernel
theorem d_L_law_598 : decode c_L_law 598 = .ok (.lor, 1) := by decide +kernel
theorem d_L_law_599 : decode c_L_law 599 = .ok (.invokevirtual 72, 3) := by decide +kernel
theorem d_L_law_602 : decode c_L_law 602 = .ok (.aload_n 2, 1) := by decide +kernel
theorem d_L_law_603 : decode c_L_law 603 = .ok (.aload_n 0, 1) := by decide +kernel
theorem d_L_law_604 : decode c_L_law 604 = .ok (.iload_n 3, 1) := by decide +kernel
theorem d_L_law_605 : decode c_L_law 605 = .ok (.iconst 1, 1) := by decide +kernel
theorem d_L_law_606 : decode c_L_law 606 = .ok (.iadd, 1) := by decide +kernel
theorem d_L_law_607 : decode c_L_law 607 = .ok (.iaload, 1) := by decide +kernel
theorem d_L_law_608 : decode c_L_law 608 = .ok (.aload_n 0, 1) := by decide +kernel
theorem d_L_law_609 : decode c_L_law 609 = .ok (.iload_n 3, 1) := by decide +kernel
theorem d_L_law_610 : decode c_L_law 610 = .ok (.iconst 2, 1) := by decide +kernel
theorem d_L_law_611 : decode c_L_law 611 = .ok (.iadd, 1) := by decide +kernel
theorem d_L_law_612 : decode c_L_law 612 = .ok (.iaload, 1) := by decide +kernel
theorem d_L_law_613 : decode c_L_law 613 = .ok (.aload_n 0, 1) := by decide +kernel
theorem d_L_law_614 : decode c_L_law 614 = .ok (.iload_n 3, 1) := by decide +kernel
theorem d_L_law_615 : decode c_L_law 615 = .ok (.iconst 3, 1) := by decide +kernel
theorem d_L_law_616 : decode c_L_law 616 = .ok (.iadd, 1) := by decide +kernel
theorem d_L_law_617 : decode c_L_law 617 = .ok (.iaload, 1) := by decide +kernel
theorem d_L_law_618 : decode c_L_law 618 = .ok (.i2l, 1) := by decide +kernel
theorem d_L_law_619 : decode c_L_law 619 = .ok (.bipush 32, 2) := by decide +kernel
theorem d_L_law_621 : decode c_L_law 621 = .ok (.lshl, 1) := by decide +kernel
theorem d_L_law_622 : decode c_L_law 622 = .ok (.aload_n 0, 1) := by decide +kernel
theorem d_L_law_623 : decode c_L_law 623 = .ok (.iload_n 3, 1) := by decide +kernel
theorem d_L_law_624 : decode c_L_law 624 = .ok (.iconst 4, 1) := by decide +kernel
theorem d_L_law_625 : decode c_L_law 625 = .ok (.iadd, 1) := by decide +kernel
theorem d_L_law_626 : decode c_L_law 626 = .ok (.iaload, 1) := by decide +kernel
theorem d_L_law_627 : decode c_L_law 627 = .ok (.i2l, 1) := by decide +kernel
theorem d_L_law_628 : decode c_L_law 628 = .ok (.ldc2_w 70, 3) := by decide +kernel
theorem d_L_law_631 : decode c_L_law 631 = .ok (.land, 1) := by decide +kernel
theorem d_L_law_632 : decode c_L_law 632 = .ok (.lor, 1) := by decide +kernel
theorem d_L_law_633 : decode c_L_law 633 = .ok (.invokevirtual 76, 3) := by decide +kernel
theorem d_L_law_636 : decode c_L_law 636 = .ok (.if_icmp .eq 219, 3) := by decide +kernel
theorem d_L_law_639 : decode c_L_law 639 = .ok (.iconst 0, 1) := by decide +kernel
theorem d_L_law_640 : decode c_L_law 640 = .ok (.ireturn, 1) := by decide +kernel
theorem d_L_law_641 : decode c_L_law 641 = .ok (.aload_n 1, 1) := by decide +kernel
theorem d_L_law_642 : decode c_L_law 642 = .ok (.aload_n 0, 1) := by decide +kernel
theorem d_L_law_643 : decode c_L_law 643 = .ok (.iload_n 3, 1) := by decide +kernel
theorem d_L_law_644 : decode c_L_law 644 = .ok (.iconst 1, 1) := by decide +kernel
theorem d_L_law_645 : decode c_L_law 645 = .ok (.iadd, 1) := by decide +kernel
theorem d_L_law_646 : decode c_L_law 646 = .ok (.iaload, 1) := by decide +kernel
theorem d_L_law_647 : decode c_L_law 647 = .ok (.aload_n 0, 1) := by decide +kernel
theorem d_L_law_648 : decode c_L_law 648 = .ok (.iload_n 3, 1) := by decide +kernel
theorem d_L_law_649 : decode c_L_law 649 = .ok (.iconst 2, 1) := by decide +kernel
theorem d_L_law_650 : decode c_L_law 650 = .ok (.iadd, 1) := by decide +kernel
theorem d_L_law_651 : decode c_L_law 651 = .ok (.iaload, 1) := by decide +kernel
theorem d_L_law_652 : decode c_L_law 652 = .ok (.aload_n 0, 1) := by decide +kernel
theorem d_L_law_653 : decode c_L_law 653 = .ok (.iload_n 3, 1) := by decide +kernel
theorem d_L_law_654 : decode c_L_law 654 = .ok (.iconst 3, 1) := by decide +kernel
theorem d_L_law_655 : decode c_L_law 655 = .ok (.iadd, 1) := by decide +kernel
theorem d_L_law_656 : decode c_L_law 656 = .ok (.iaload, 1) := by decide +kernel
theorem d_L_law_657 : decode c_L_law 657 = .ok (.aload_n 0, 1) := by decide +kernel
theorem d_L_law_658 : decode c_L_law 658 = .ok (.iload_n 3, 1) := by decide +kernel
theorem d_L_law_659 : decode c_L_law 659 = .ok (.iconst 4, 1) := by decide +kernel
theorem d_L_law_660 : decode c_L_law 660 = .ok (.iadd, 1) := by decide +kernel
theorem d_L_law_661 : decode c_L_law 661 = .ok (.iaload, 1) := by decide +kernel
theorem d_L_law_662 : decode c_L_law 662 = .ok (.invokevirtual 77, 3) := by decide +kernel
theorem d_L_law_665 : decode c_L_law 665 = .ok (.aload_n 2, 1) := by decide +kernel
theorem d_L_law_666 : decode c_L_law 666 = .ok (.aload_n 0, 1) := by decide +kernel
theorem d_L_law_667 : decode c_L_law 667 = .ok (.iload_n 3, 1) := by decide +kernel
theorem d_L_law_668 : decode c_L_law 668 = .ok (.iconst 1, 1) := by decide +kernel
theorem d_L_law_669 : decode c_L_law 669 = .ok (.iadd, 1) := by decide +kernel
theorem d_L_law_670 : decode c_L_law 670 = .ok (.iaload, 1) := by decide +kernel
theorem d_L_law_671 : decode c_L_law 671 = .ok (.aload_n 0, 1) := by decide +kernel
theorem d_L_law_672 : decode c_L_law 672 = .ok (.iload_n 3, 1) := by decide +kernel
theorem d_L_law_673 : decode c_L_law 673 = .ok (.iconst 2, 1) := by decide +kernel
theorem d_L_law_674 : decode c_L_law 674 = .ok (.iadd, 1) := by decide +kernel
theorem d_L_law_675 : decode c_L_law 675 = .ok (.iaload, 1) := by decide +kernel
theorem d_L_law_676 : decode c_L_law 676 = .ok (.aload_n 0, 1) := by decide +kernel
theorem d_L_law_677 : decode c_L_law 677 = .ok (.iload_n 3, 1) := by decide +kernel
theorem d_L_law_678 : decode c_L_law 678 = .ok (.iconst 3, 1) := by decide +kernel
theorem d_L_law_679 : decode c_L_law 679 = .ok (.iadd, 1) := by decide +kernel
theorem d_L_law_680 : decode c_L_law 680 = .ok (.iaload, 1) := by decide +kernel
theorem d_L_law_681 : decode c_L_law 681 = .ok (.aload_n 0, 1) := by decide +kernel
theorem d_L_law_682 : decode c_L_law 682 = .ok (.iload_n 3, 1) := by decide +kernel
theorem d_L_law_683 : decode c_L_law 683 = .ok (.iconst 4, 1) := by decide +kernel
theorem d_L_law_684 : decode c_L_law 684 = .ok (.iadd, 1) := by decide +kernel
theorem d_L_law_685 : decode c_L_law 685 = .ok (.iaload, 1) := by decide +kernel
theorem d_L_law_686 : decode c_L_law 686 = .ok (.invokevirtual 80, 3) := by decide +kernel
theorem d_L_law_689 : decode c_L_law 689 = .ok (.if_icmp .eq 166, 3) := by decide +kernel
theorem d_L_law_692 : decode c_L_law 692 = .ok (.iconst 0, 1) := by decide +kernel
theorem d_L_law_693 : decode c_L_law 693 = .ok (.ireturn, 1) := by decide +kernel
theorem d_L_law_694 : decode c_L_law 694 = .ok (.aload_n 1, 1) := by decide +kernel
theorem d_L_law_695 : decode c_L_law 695 = .ok (.aload_n 0, 1) := by decide +kernel
theorem d_L_law_696 : decode c_L_law 696 = .ok (.iload_n 3, 1) := by decide +kernel
theorem d_L_law_697 : decode c_L_law 697 = .ok (.iconst 1, 1) := by decide +kernel
theorem d_L_law_698 : decode c_L_law 698 = .ok (.iadd, 1) := by decide +kernel
theorem d_L_law_699 : decode c_L_law 699 = .ok (.iaload, 1) := by decide +kernel
theorem d_L_law_700 : decode c_L_law 700 = .ok (.invokevirtual 81, 3) := by decide +kernel
theorem d_L_law_703 : decode c_L_law 703 = .ok (.aload_n 2, 1) := by decide +kernel
theorem d_L_law_704 : decode c_L_law 704 = .ok (.aload_n 0, 1) := by decide +kernel
theorem d_L_law_705 : decode c_L_law 705 = .ok (.iload_n 3, 1) := by decide +kernel
theorem d_L_law_706 : decode c_L_law 706 = .ok (.iconst 1, 1) := by decide +kernel
theorem d_L_law_707 : decode c_L_law 707 = .ok (.iadd, 1) := by decide +kernel
theorem d_L_law_708 : decode c_L_law 708 = .ok (.iaload, 1) := by decide +kernel
theorem d_L_law_709 : decode c_L_law 709 = .ok (.invokevirtual 84, 3) := by decide +kernel
theorem d_L_law_712 : decode c_L_law 712 = .ok (.if_icmp .eq 143, 3) := by decide +kernel
theorem d_L_law_715 : decode c_L_law 715 = .ok (.iconst 0, 1) := by decide +kernel
theorem d_L_law_716 : decode c_L_law 716 = .ok (.ireturn, 1) := by decide +kernel
theorem d_L_law_717 : decode c_L_law 717 = .ok (.aload_n 1, 1) := by decide +kernel
theorem d_L_law_718 : decode c_L_law 718 = .ok (.aload_n 0, 1) := by decide +kernel
theorem d_L_law_719 : decode c_L_law 719 = .ok (.iload_n 3, 1) := by decide +kernel
theorem d_L_law_720 : decode c_L_law 720 = .ok (.iconst 1, 1) := by decide +kernel
theorem d_L_law_721 : decode c_L_law 721 = .ok (.iadd, 1) := by decide +kernel
theorem d_L_law_722 : decode c_L_law 722 = .ok (.iaload, 1) := by decide +kernel
theorem d_L_law_723 : decode c_L_law 723 = .ok (.aload_n 0, 1) := by decide +kernel
theorem d_L_law_724 : decode c_L_law 724 = .ok (.iload_n 3, 1) := by decide +kernel
theorem d_L_law_725 : decode c_L_law 725 = .ok (.iconst 2, 1) := by decide +kernel
theorem d_L_law_726 : decode c_L_law 726 = .ok (.iadd, 1) := by decide +kernel
theorem d_L_law_727 : decode c_L_law 727 = .ok (.iaload, 1) := by decide +kernel
theorem d_L_law_728 : decode c_L_law 728 = .ok (.aload_n 0, 1) := by decide +kernel
theorem d_L_law_729 : decode c_L_law 729 = .ok (.iload_n 3, 1) := by decide +kernel
theorem d_L_law_730 : decode c_L_law 730 = .ok (.iconst 3, 1) := by decide +kernel
theorem d_L_law_731 : decode c_L_law 731 = .ok (.iadd, 1) := by decide +kernel
theorem d_L_law_732 : decode c_L_law 732 = .ok (.iaload, 1) := by decide +kernel
theorem d_L_law_733 : decode c_L_law 733 = .ok (.ifCond .eq 7, 3) := by decide +kernel
theorem d_L_law_736 : decode c_L_law 736 = .ok (.iconst 1, 1) := by decide +kernel
theorem d_L_law_737 : decode c_L_law 737 = .ok (.goto 4, 3) := by decide +kernel
theorem d_L_law_740 : decode c_L_law 740 = .ok (.iconst 0, 1) := by decide +kernel
theorem d_L_law_741 : decode c_L_law 741 = .ok (.invokevirtual 85, 3) := by decide +kernel
theorem d_L_law_744 : decode c_L_law 744 = .ok (.aload_n 2, 1) := by decide +kernel
theorem d_L_law_745 : decode c_L_law 745 = .ok (.aload_n 0, 1) := by decide +kernel
theorem d_L_law_746 : decode c_L_law 746 = .ok (.iload_n 3, 1) := by decide +kernel
theorem d_L_law_747 : decode c_L_law 747 = .ok (.iconst 1, 1) := by decide +kernel
theorem d_L_law_748 : decode c_L_law 748 = .ok (.iadd, 1) := by decide +kernel
theorem d_L_law_749 : decode c_L_law 749 = .ok (.iaload, 1) := by decide +kernel
theorem d_L_law_750 : decode c_L_law 750 = .ok (.aload_n 0, 1) := by decide +kernel
theorem d_L_law_751 : decode c_L_law 751 = .ok (.iload_n 3, 1) := by decide +kernel
theorem d_L_law_752 : decode c_L_law 752 = .ok (.iconst 2, 1) := by decide +kernel
theorem d_L_law_753 : decode c_L_law 753 = .ok (.iadd, 1) := by decide +kernel
theorem d_L_law_754 : decode c_L_law 754 = .ok (.iaload, 1) := by decide +kernel
theorem d_L_law_755 : decode c_L_law 755 = .ok (.aload_n 0, 1) := by decide +kernel
theorem d_L_law_756 : decode c_L_law 756 = .ok (.iload_n 3, 1) := by decide +kernel
theorem d_L_law_757 : decode c_L_law 757 = .ok (.iconst 3, 1) := by decide +kernel
theorem d_L_law_758 : decode c_L_law 758 = .ok (.iadd, 1) := by decide +kernel
theorem d_L_law_759 : decode c_L_law 759 = .ok (.iaload, 1) := by decide +kernel
theorem d_L_law_760 : decode c_L_law 760 = .ok (.ifCond .eq 7, 3) := by decide +kernel
theorem d_L_law_763 : decode c_L_law 763 = .ok (.iconst 1, 1) := by decide +kernel
theorem d_L_law_764 : decode c_L_law 764 = .ok (.goto 4, 3) := by decide +kernel
theorem d_L_law_767 : decode c_L_law 767 = .ok (.iconst 0, 1) := by decide +kernel
theorem d_L_law_768 : decode c_L_law 768 = .ok (.invokevirtual 89, 3) := by decide +kernel
theorem d_L_law_771 : decode c_L_law 771 = .ok (.if_icmp .eq 84, 3) := by decide +kernel
theorem d_L_law_774 : decode c_L_law 774 = .ok (.iconst 0, 1) := by decide +kernel
theorem d_L_law_775 : decode c_L_law 775 = .ok (.ireturn, 1) := by decide +kernel
theorem d_L_law_776 : decode c_L_law 776 = .ok (.aload_n 1, 1) := by decide +kernel
theorem d_L_law_777 : decode c_L_law 777 = .ok (.aload_n 0, 1) := by decide +kernel
theorem d_L_law_778 : decode c_L_law 778 = .ok (.iload_n 3, 1) := by decide +kernel
theorem d_L_law_779 : decode c_L_law 779 = .ok (.iconst 1, 1) := by decide +kernel
theorem d_L_law_780 : decode c_L_law 780 = .ok (.iadd, 1) := by decide +kernel
theorem d_L_law_781 : decode c_L_law 781 = .ok (.iaload, 1) := by decide +kernel
theorem d_L_law_782 : decode c_L_law 782 = .ok (.aload_n 0, 1) := by decide +kernel
theorem d_L_law_783 : decode c_L_law 783 = .ok (.iload_n 3, 1) := by decide +kernel
theorem d_L_law_784 : decode c_L_law 784 = .ok (.iconst 2, 1) := by decide +kernel
theorem d_L_law_785 : decode c_L_law 785 = .ok (.iadd, 1) := by decide +kernel
theorem d_L_law_786 : decode c_L_law 786 = .ok (.iaload, 1) := by decide +kernel
theorem d_L_law_787 : decode c_L_law 787 = .ok (.invokevirtual 90, 3) := by decide +kernel
theorem d_L_law_790 : decode c_L_law 790 = .ok (.aload_n 2, 1) := by decide +kernel
theorem d_L_law_791 : decode c_L_law 791 = .ok (.aload_n 0, 1) := by decide +kernel
theorem d_L_law_792 : decode c_L_law 792 = .ok (.iload_n 3, 1) := by decide +kernel
theorem d_L_law_793 : decode c_L_law 793 = .ok (.iconst 1, 1) := by decide +kernel
theorem d_L_law_794 : decode c_L_law 794 = .ok (.iadd, 1) := by decide +kernel
theorem d_L_law_795 : decode c_L_law 795 = .ok (.iaload, 1) := by decide +kernel
theorem d_L_law_796 : decode c_L_law 796 = .ok (.aload_n 0, 1) := by decide +kernel
theorem d_L_law_797 : decode c_L_law 797 = .ok (.iload_n 3, 1) := by decide +kernel
theorem d_L_law_798 : decode c_L_law 798 = .ok (.iconst 2, 1) := by decide +kernel
theorem d_L_law_799 : decode c_L_law 799 = .ok (.iadd, 1) := by decide +kernel
theorem d_L_law_800 : decode c_L_law 800 = .ok (.iaload, 1) := by decide +kernel
theorem d_L_law_801 : decode c_L_law 801 = .ok (.invokevirtual 93, 3) := by decide +kernel
theorem d_L_law_804 : decode c_L_law 804 = .ok (.if_icmp .eq 51, 3) := by decide +kernel
theorem d_L_law_807 : decode c_L_law 807 = .ok (.iconst 0, 1) := by decide +kernel
theorem d_L_law_808 : decode c_L_law 808 = .ok (.ireturn, 1) := by decide +kernel
theorem d_L_law_809 : decode c_L_law 809 = .ok (.aload_n 1, 1) := by decide +kernel
theorem d_L_law_810 : decode c_L_law 810 = .ok (.aload_n 0, 1) := by decide +kernel
theorem d_L_law_811 : decode c_L_law 811 = .ok (.iload_n 3, 1) := by decide +kernel
theorem d_L_law_812 : decode c_L_law 812 = .ok (.iconst 1, 1) := by decide +kernel
theorem d_L_law_813 : decode c_L_law 813 = .ok (.iadd, 1) := by decide +kernel
theorem d_L_law_814 : decode c_L_law 814 = .ok (.iaload, 1) := by decide +kernel
theorem d_L_law_815 : decode c_L_law 815 = .ok (.aload_n 0, 1) := by decide +kernel
theorem d_L_law_816 : decode c_L_law 816 = .ok (.iload_n 3, 1) := by decide +kernel
theorem d_L_law_817 : decode c_L_law 817 = .ok (.iconst 2, 1) := by decide +kernel
theorem d_L_law_818 : decode c_L_law 818 = .ok (.iadd, 1) := by decide +kernel
theorem d_L_law_819 : decode c_L_law 819 = .ok (.iaload, 1) := by decide +kernel
theorem d_L_law_820 : decode c_L_law 820 = .ok (.invokevirtual 94, 3) := by decide +kernel
theorem d_L_law_823 : decode c_L_law 823 = .ok (.aload_n 2, 1) := by decide +kernel
theorem d_L_law_824 : decode c_L_law 824 = .ok (.aload_n 0, 1) := by decide +kernel
theorem d_L_law_825 : decode c_L_law 825 = .ok (.iload_n 3, 1) := by decide +kernel
theorem d_L_law_826 : decode c_L_law 826 = .ok (.iconst 1, 1) := by decide +kernel
theorem d_L_law_827 : decode c_L_law 827 = .ok (.iadd, 1) := by decide +kernel
theorem d_L_law_828 : decode c_L_law 828 = .ok (.iaload, 1) := by decide +kernel
theorem d_L_law_829 : decode c_L_law 829 = .ok (.aload_n 0, 1) := by decide +kernel
theorem d_L_law_830 : decode c_L_law 830 = .ok (.iload_n 3, 1) := by decide +kernel
theorem d_L_law_831 : decode c_L_law 831 = .ok (.iconst 2, 1) := by decide +kernel
theorem d_L_law_832 : decode c_L_law 832 = .ok (.iadd, 1) := by decide +kernel
theorem d_L_law_833 : decode c_L_law 833 = .ok (.iaload, 1) := by decide +kernel
theorem d_L_law_834 : decode c_L_law 834 = .ok (.invokevirtual 97, 3) := by decide +kernel
theorem d_L_law_837 : decode c_L_law 837 = .ok (.if_icmp .eq 18, 3) := by decide +kernel
theorem d_L_law_840 : decode c_L_law 840 = .ok (.iconst 0, 1) := by decide +kernel
theorem d_L_law_841 : decode c_L_law 841 = .ok (.ireturn, 1) := by decide +kernel
theorem d_L_law_842 : decode c_L_law 842 = .ok (.aload_n 1, 1) := by decide +kernel
theorem d_L_law_843 : decode c_L_law 843 = .ok (.invokevirtual 98, 3) := by decide +kernel
theorem d_L_law_846 : decode c_L_law 846 = .ok (.aload_n 2, 1) := by decide +kernel
theorem d_L_law_847 : decode c_L_law 847 = .ok (.invokevirtual 102, 3) := by decide +kernel
theorem d_L_law_850 : decode c_L_law 850 = .ok (.if_icmp .eq 5, 3) := by decide +kernel
theorem d_L_law_853 : decode c_L_law 853 = .ok (.iconst 0, 1) := by decide +kernel
theorem d_L_law_854 : decode c_L_law 854 = .ok (.ireturn, 1) := by decide +kernel
theorem d_L_law_855 : decode c_L_law 855 = .ok (.iinc 3 5, 3) := by decide +kernel
theorem d_L_law_858 : decode c_L_law 858 = .ok (.goto (-840), 3) := by decide +kernel
theorem d_L_law_861 : decode c_L_law 861 = .ok (.iconst 1, 1) := by decide +kernel
theorem d_L_law_862 : decode c_L_law 862 = .ok (.ireturn, 1) := by decide +kernel

theorem dX12_init_0 : decode cX12_init 0 = .ok (.aload_n 0, 1) := by decide +kernel
theorem dX12_init_1 : decode cX12_init 1 = .ok (.invokespecial 1, 3) := by decide +kernel
theorem dX12_init_4 : decode cX12_init 4 = .ok (.aload_n 0, 1) := by decide +kernel
theorem dX12_init_5 : decode cX12_init 5 = .ok (.sipush 10780, 3) := by decide +kernel
theorem dX12_init_8 : decode cX12_init 8 = .ok (.newarray .int, 2) := by decide +kernel
theorem dX12_init_10 : decode cX12_init 10 = .ok (.putfield 7, 3) := by decide +kernel
theorem dX12_init_13 : decode cX12_init 13 = .ok (.aload_n 0, 1) := by decide +kernel
theorem dX12_init_14 : decode cX12_init 14 = .ok (.iconst 2, 1) := by decide +kernel
theorem dX12_init_15 : decode cX12_init 15 = .ok (.newarray .boolean, 2) := by decide +kernel
theorem dX12_init_17 : decode cX12_init 17 = .ok (.putfield 13, 3) := by decide +kernel
theorem dX12_init_20 : decode cX12_init 20 = .ok (.aload_n 0, 1) := by decide +kernel
theorem dX12_init_21 : decode cX12_init 21 = .ok (.bipush 72, 2) := by decide +kernel
theorem dX12_init_23 : decode cX12_init 23 = .ok (.newarray .int, 2) := by decide +kernel
theorem dX12_init_25 : decode cX12_init 25 = .ok (.putfield 17, 3) := by decide +kernel
theorem dX12_init_28 : decode cX12_init 28 = .ok (.aload_n 0, 1) := by decide +kernel
theorem dX12_init_29 : decode cX12_init 29 = .ok (.sipush 641, 3) := by decide +kernel
theorem dX12_init_32 : decode cX12_init 32 = .ok (.newarray .int, 2) := by decide +kernel
theorem dX12_init_34 : decode cX12_init 34 = .ok (.putfield 20, 3) := by decide +kernel
theorem dX12_init_37 : decode cX12_init 37 = .ok (.aload_n 0, 1) := by decide +kernel
theorem dX12_init_38 : decode cX12_init 38 = .ok (.sipush 641, 3) := by decide +kernel
theorem dX12_init_41 : decode cX12_init 41 = .ok (.newarray .int, 2) := by decide +kernel
theorem dX12_init_43 : decode cX12_init 43 = .ok (.putfield 23, 3) := by decide +kernel
theorem dX12_init_46 : decode cX12_init 46 = .ok (.aload_n 0, 1) := by decide +kernel
theorem dX12_init_47 : decode cX12_init 47 = .ok (.sipush 641, 3) := by decide +kernel
theorem dX12_init_50 : decode cX12_init 50 = .ok (.newarray .int, 2) := by decide +kernel
theorem dX12_init_52 : decode cX12_init 52 = .ok (.putfield 26, 3) := by decide +kernel
theorem dX12_init_55 : decode cX12_init 55 = .ok (.aload_n 0, 1) := by decide +kernel
theorem dX12_init_56 : decode cX12_init 56 = .ok (.sipush 641, 3) := by decide +kernel
theorem dX12_init_59 : decode cX12_init 59 = .ok (.newarray .int, 2) := by decide +kernel
theorem dX12_init_61 : decode cX12_init 61 = .ok (.putfield 29, 3) := by decide +kernel
theorem dX12_init_64 : decode cX12_init 64 = .ok (.aload_n 0, 1) := by decide +kernel
theorem dX12_init_65 : decode cX12_init 65 = .ok (.sipush 641, 3) := by decide +kernel
theorem dX12_init_68 : decode cX12_init 68 = .ok (.newarray .int, 2) := by decide +kernel
theorem dX12_init_70 : decode cX12_init 70 = .ok (.putfield 32, 3) := by decide +kernel
theorem dX12_init_73 : decode cX12_init 73 = .ok (.aload_n 0, 1) := by decide +kernel
theorem dX12_init_74 : decode cX12_init 74 = .ok (.sipush 641, 3) := by decide +kernel
theorem dX12_init_77 : decode cX12_init 77 = .ok (.newarray .int, 2) := by decide +kernel
theorem dX12_init_79 : decode cX12_init 79 = .ok (.putfield 35, 3) := by decide +kernel
theorem dX12_init_82 : decode cX12_init 82 = .ok (.aload_n 0, 1) := by decide +kernel
theorem dX12_init_83 : decode cX12_init 83 = .ok (.sipush 641, 3) := by decide +kernel
theorem dX12_init_86 : decode cX12_init 86 = .ok (.newarray .int, 2) := by decide +kernel
theorem dX12_init_88 : decode cX12_init 88 = .ok (.putfield 38, 3) := by decide +kernel
theorem dX12_init_91 : decode cX12_init 91 = .ok (.aload_n 0, 1) := by decide +kernel
theorem dX12_init_92 : decode cX12_init 92 = .ok (.bipush 21, 2) := by decide +kernel
theorem dX12_init_94 : decode cX12_init 94 = .ok (.newarray .int, 2) := by decide +kernel
theorem dX12_init_96 : decode cX12_init 96 = .ok (.putfield 41, 3) := by decide +kernel
theorem dX12_init_99 : decode cX12_init 99 = .ok (.aload_n 0, 1) := by decide +kernel
theorem dX12_init_100 : decode cX12_init 100 = .ok (.bipush 20, 2) := by decide +kernel
theorem dX12_init_102 : decode cX12_init 102 = .ok (.newarray .boolean, 2) := by decide +kernel
theorem dX12_init_104 : decode cX12_init 104 = .ok (.putfield 44, 3) := by decide +kernel
theorem dX12_init_107 : decode cX12_init 107 = .ok (.aload_n 0, 1) := by decide +kernel
theorem dX12_init_108 : decode cX12_init 108 = .ok (.bipush 21, 2) := by decide +kernel
theorem dX12_init_110 : decode cX12_init 110 = .ok (.newarray .int, 2) := by decide +kernel
theorem dX12_init_112 : decode cX12_init 112 = .ok (.putfield 47, 3) := by decide +kernel
theorem dX12_init_115 : decode cX12_init 115 = .ok (.aload_n 0, 1) := by decide +kernel
theorem dX12_init_116 : decode cX12_init 116 = .ok (.sipush 252, 3) := by decide +kernel
theorem dX12_init_119 : decode cX12_init 119 = .ok (.newarray .int, 2) := by decide +kernel
theorem dX12_init_121 : decode cX12_init 121 = .ok (.putfield 50, 3) := by decide +kernel
theorem dX12_init_124 : decode cX12_init 124 = .ok (.aload_n 0, 1) := by decide +kernel
theorem dX12_init_125 : decode cX12_init 125 = .ok (.bipush 12, 2) := by decide +kernel
theorem dX12_init_127 : decode cX12_init 127 = .ok (.newarray .int, 2) := by decide +kernel
theorem dX12_init_129 : decode cX12_init 129 = .ok (.putfield 53, 3) := by decide +kernel
theorem dX12_init_132 : decode cX12_init 132 = .ok (.aload_n 0, 1) := by decide +kernel
theorem dX12_init_133 : decode cX12_init 133 = .ok (.bipush 20, 2) := by decide +kernel
theorem dX12_init_135 : decode cX12_init 135 = .ok (.newarray .int, 2) := by decide +kernel
theorem dX12_init_137 : decode cX12_init 137 = .ok (.putfield 56, 3) := by decide +kernel
theorem dX12_init_140 : decode cX12_init 140 = .ok (.aload_n 0, 1) := by decide +kernel
theorem dX12_init_141 : decode cX12_init 141 = .ok (.iconst 2, 1) := by decide +kernel
theorem dX12_init_142 : decode cX12_init 142 = .ok (.newarray .int, 2) := by decide +kernel
theorem dX12_init_144 : decode cX12_init 144 = .ok (.putfield 59, 3) := by decide +kernel
theorem dX12_init_147 : decode cX12_init 147 = .ok (.aload_n 0, 1) := by decide +kernel
theorem dX12_init_148 : decode cX12_init 148 = .ok (.iconst 2, 1) := by decide +kernel
theorem dX12_init_149 : decode cX12_init 149 = .ok (.newarray .int, 2) := by decide +kernel
theorem dX12_init_151 : decode cX12_init 151 = .ok (.putfield 62, 3) := by decide +kernel
theorem dX12_init_154 : decode cX12_init 154 = .ok (.aload_n 0, 1) := by decide +kernel
theorem dX12_init_155 : decode cX12_init 155 = .ok (.bipush 17, 2) := by decide +kernel
theorem dX12_init_157 : decode cX12_init 157 = .ok (.newarray .int, 2) := by decide +kernel
theorem dX12_init_159 : decode cX12_init 159 = .ok (.dup, 1) := by decide +kernel
theorem dX12_init_160 : decode cX12_init 160 = .ok (.iconst 0, 1) := by decide +kernel
theorem dX12_init_161 : decode cX12_init 161 = .ok (.iconst 0, 1) := by decide +kernel
theorem dX12_init_162 : decode cX12_init 162 = .ok (.iastore, 1) := by decide +kernel
theorem dX12_init_163 : decode cX12_init 163 = .ok (.dup, 1) := by decide +kernel
theorem dX12_init_164 : decode cX12_init 164 = .ok (.iconst 1, 1) := by decide +kernel
theorem dX12_init_165 : decode cX12_init 165 = .ok (.iconst 2, 1) := by decide +kernel
theorem dX12_init_166 : decode cX12_init 166 = .ok (.iastore, 1) := by decide +kernel
theorem dX12_init_167 : decode cX12_init 167 = .ok (.dup, 1) := by decide +kernel
theorem dX12_init_168 : decode cX12_init 168 = .ok (.iconst 2, 1) := by decide +kernel
theorem dX12_init_169 : decode cX12_init 169 = .ok (.iconst 3, 1) := by decide +kernel
theorem dX12_init_170 : decode cX12_init 170 = .ok (.iastore, 1) := by decide +kernel
theorem dX12_init_171 : decode cX12_init 171 = .ok (.dup, 1) := by decide +kernel
theorem dX12_init_172 : decode cX12_init 172 = .ok (.iconst 3, 1) := by decide +kernel
theorem dX12_init_173 : decode cX12_init 173 = .ok (.iconst 4, 1) := by decide +kernel
theorem dX12_init_174 : decode cX12_init 174 = .ok (.iastore, 1) := by decide +kernel
theorem dX12_init_175 : decode cX12_init 175 = .ok (.dup, 1) := by decide +kernel
theorem dX12_init_176 : decode cX12_init 176 = .ok (.iconst 4, 1) := by decide +kernel
theorem dX12_init_177 : decode cX12_init 177 = .ok (.iconst 5, 1) := by decide +kernel
theorem dX12_init_178 : decode cX12_init 178 = .ok (.iastore, 1) := by decide +kernel
theorem dX12_init_179 : decode cX12_init 179 = .ok (.dup, 1) := by decide +kernel
theorem dX12_init_180 : decode cX12_init 180 = .ok (.iconst 5, 1) := by decide +kernel
theorem dX12_init_181 : decode cX12_init 181 = .ok (.bipush 8, 2) := by decide +kernel
theorem dX12_init_183 : decode cX12_init 183 = .ok (.iastore, 1) := by decide +kernel
theorem dX12_init_184 : decode cX12_init 184 = .ok (.dup, 1) := by decide +kernel
theorem dX12_init_185 : decode cX12_init 185 = .ok (.bipush 6, 2) := by decide +kernel
theorem dX12_init_187 : decode cX12_init 187 = .ok (.bipush 9, 2) := by decide +kernel
theorem dX12_init_189 : decode cX12_init 189 = .ok (.iastore, 1) := by decide +kernel
theorem dX12_init_190 : decode cX12_init 190 = .ok (.dup, 1) := by decide +kernel
theorem dX12_init_191 : decode cX12_init 191 = .ok (.bipush 7, 2) := by decide +kernel
theorem dX12_init_193 : decode cX12_init 193 = .ok (.bipush 14, 2) := by decide +kernel
theorem dX12_init_195 : decode cX12_init 195 = .ok (.iastore, 1) := by decide +kernel
theorem dX12_init_196 : decode cX12_init 196 = .ok (.dup, 1) := by decide +kernel
theorem dX12_init_197 : decode cX12_init 197 = .ok (.bipush 8, 2) := by decide +kernel
theorem dX12_init_199 : decode cX12_init 199 = .ok (.bipush 17, 2) := by decide +kernel
theorem dX12_init_201 : decode cX12_init 201 = .ok (.iastore, 1) := by decide +kernel
theorem dX12_init_202 : decode cX12_init 202 = .ok (.dup, 1) := by decide +kernel
theorem dX12_init_203 : decode cX12_init 203 = .ok (.bipush 9, 2) := by decide +kernel
theorem dX12_init_205 : decode cX12_init 205 = .ok (.bipush 21, 2) := by decide +kernel
theorem dX12_init_207 : decode cX12_init 207 = .ok (.iastore, 1) := by decide +kernel
theorem dX12_init_208 : decode cX12_init 208 = .ok (.dup, 1) := by decide +kernel
theorem dX12_init_209 : decode cX12_init 209 = .ok (.bipush 10, 2) := by decide +kernel
theorem dX12_init_211 : decode cX12_init 211 = .ok (.bipush 24, 2) := by decide +kernel
theorem dX12_init_213 : decode cX12_init 213 = .ok (.iastore, 1) := by decide +kernel
theorem dX12_init_214 : decode cX12_init 214 = .ok (.dup, 1) := by decide +kernel
theorem dX12_init_215 : decode cX12_init 215 = .ok (.bipush 11, 2) := by decide +kernel
theorem dX12_init_217 : decode cX12_init 217 = .ok (.bipush 26, 2) := by decide +kernel
theorem dX12_init_219 : decode cX12_init 219 = .ok (.iastore, 1) := by decide +kernel
theorem dX12_init_220 : decode cX12_init 220 = .ok (.dup, 1) := by decide +kernel
theorem dX12_init_221 : decode cX12_init 221 = .ok (.bipush 12, 2) := by decide +kernel
theorem dX12_init_223 : decode cX12_init 223 = .ok (.bipush 28, 2) := by decide +kernel
theorem dX12_init_225 : decode cX12_init 225 = .ok (.iastore, 1) := by decide +kernel
theorem dX12_init_226 : decode cX12_init 226 = .ok (.dup, 1) := by decide +kernel
theorem dX12_init_227 : decode cX12_init 227 = .ok (.bipush 13, 2) := by decide +kernel
theorem dX12_init_229 : decode cX12_init 229 = .ok (.bipush 31, 2) := by decide +kernel
theorem dX12_init_231 : decode cX12_init 231 = .ok (.iastore, 1) := by decide +kernel
theorem dX12_init_232 : decode cX12_init 232 = .ok (.dup, 1) := by decide +kernel
theorem dX12_init_233 : decode cX12_init 233 = .ok (.bipush 14, 2) := by decide +kernel
theorem dX12_init_235 : decode cX12_init 235 = .ok (.bipush 32, 2) := by decide +kernel
theorem dX12_init_237 : decode cX12_init 237 = .ok (.iastore, 1) := by decide +kernel
theorem dX12_init_238 : decode cX12_init 238 = .ok (.dup, 1) := by decide +kernel
theorem dX12_init_239 : decode cX12_init 239 = .ok (.bipush 15, 2) := by decide +kernel
theorem dX12_init_241 : decode cX12_init 241 = .ok (.bipush 36, 2) := by decide +kernel
theorem dX12_init_243 : decode cX12_init 243 = .ok (.iastore, 1) := by decide +kernel
theorem dX12_init_244 : decode cX12_init 244 = .ok (.dup, 1) := by decide +kernel
theorem dX12_init_245 : decode cX12_init 245 = .ok (.bipush 16, 2) := by decide +kernel
theorem dX12_init_247 : decode cX12_init 247 = .ok (.bipush 37, 2) := by decide +kernel
theorem dX12_init_249 : decode cX12_init 249 = .ok (.iastore, 1) := by decide +kernel
theorem dX12_init_250 : decode cX12_init 250 = .ok (.putfield 65, 3) := by decide +kernel
theorem dX12_init_253 : decode cX12_init 253 = .ok (.aload_n 0, 1) := by decide +kernel
theorem dX12_init_254 : decode cX12_init 254 = .ok (.bipush 37, 2) := by decide +kernel
theorem dX12_init_256 : decode cX12_init 256 = .ok (.newarray .int, 2) := by decide +kernel
theorem dX12_init_258 : decode cX12_init 258 = .ok (.dup, 1) := by decide +kernel
theorem dX12_init_259 : decode cX12_init 259 = .ok (.iconst 0, 1) := by decide +kernel
theorem dX12_init_260 : decode cX12_init 260 = .ok (.bipush 97, 2) := by decide +kernel
theorem dX12_init_262 : decode cX12_init 262 = .ok (.iastore, 1) := by decide +kernel
theorem dX12_init_263 : decode cX12_init 263 = .ok (.dup, 1) := by decide +kernel
theorem dX12_init_264 : decode cX12_init 264 = .ok (.iconst 1, 1) := by decide +kernel
theorem dX12_init_265 : decode cX12_init 265 = .ok (.bipush 40, 2) := by decide +kernel
theorem dX12_init_267 : decode cX12_init 267 = .ok (.iastore, 1) := by decide +kernel
theorem dX12_init_268 : decode cX12_init 268 = .ok (.dup, 1) := by decide +kernel
theorem dX12_init_269 : decode cX12_init 269 = .ok (.iconst 2, 1) := by decide +kernel
theorem dX12_init_270 : decode cX12_init 270 = .ok (.bipush 41, 2) := by decide +kernel
theorem dX12_init_272 : decode cX12_init 272 = .ok (.iastore, 1) := by decide +kernel
theorem dX12_init_273 : decode cX12_init 273 = .ok (.dup, 1) := by decide +kernel
theorem dX12_init_274 : decode cX12_init 274 = .ok (.iconst 3, 1) := by decide +kernel
theorem dX12_init_275 : decode cX12_init 275 = .ok (.bipush 123, 2) := by decide +kernel
theorem dX12_init_277 : decode cX12_init 277 = .ok (.iastore, 1) := by decide +kernel
theorem dX12_init_278 : decode cX12_init 278 = .ok (.dup, 1) := by decide +kernel
theorem dX12_init_279 : decode cX12_init 279 = .ok (.iconst 4, 1) := by decide +kernel
theorem dX12_init_280 : decode cX12_init 280 = .ok (.bipush 125, 2) := by decide +kernel
theorem dX12_init_282 : decode cX12_init 282 = .ok (.iastore, 1) := by decide +kernel
theorem dX12_init_283 : decode cX12_init 283 = .ok (.dup, 1) := by decide +kernel
theorem dX12_init_284 : decode cX12_init 284 = .ok (.iconst 5, 1) := by decide +kernel
theorem dX12_init_285 : decode cX12_init 285 = .ok (.bipush 91, 2) := by decide +kernel
theorem dX12_init_287 : decode cX12_init 287 = .ok (.iastore, 1) := by decide +kernel
theorem dX12_init_288 : decode cX12_init 288 = .ok (.dup, 1) := by decide +kernel
theorem dX12_init_289 : decode cX12_init 289 = .ok (.bipush 6, 2) := by decide +kernel
theorem dX12_init_291 : decode cX12_init 291 = .ok (.bipush 120, 2) := by decide +kernel
theorem dX12_init_293 : decode cX12_init 293 = .ok (.iastore, 1) := by decide +kernel
theorem dX12_init_294 : decode cX12_init 294 = .ok (.dup, 1) := by decide +kernel
theorem dX12_init_295 : decode cX12_init 295 = .ok (.bipush 7, 2) := by decide +kernel
theorem dX12_init_297 : decode cX12_init 297 = .ok (.bipush 44, 2) := by decide +kernel
theorem dX12_init_299 : decode cX12_init 299 = .ok (.iastore, 1) := by decide +kernel
theorem dX12_init_300 : decode cX12_init 300 = .ok (.dup, 1) := by decide +kernel
theorem dX12_init_301 : decode cX12_init 301 = .ok (.bipush 8, 2) := by decide +kernel
theorem dX12_init_303 : decode cX12_init 303 = .ok (.bipush 93, 2) := by decide +kernel
theorem dX12_init_305 : decode cX12_init 305 = .ok (.iastore, 1) := by decide +kernel
theorem dX12_init_306 : decode cX12_init 306 = .ok (.dup, 1) := by decide +kernel
theorem dX12_init_307 : decode cX12_init 307 = .ok (.bipush 9, 2) := by decide +kernel
theorem dX12_init_309 : decode cX12_init 309 = .ok (.bipush 98, 2) := by decide +kernel
theorem dX12_init_311 : decode cX12_init 311 = .ok (.iastore, 1) := by decide +kernel
theorem dX12_init_312 : decode cX12_init 312 = .ok (.dup, 1) := by decide +kernel
theorem dX12_init_313 : decode cX12_init 313 = .ok (.bipush 10, 2) := by decide +kernel
theorem dX12_init_315 : decode cX12_init 315 = .ok (.bipush 101, 2) := by decide +kernel
theorem dX12_init_317 : decode cX12_init 317 = .ok (.iastore, 1) := by decide +kernel
theorem dX12_init_318 : decode cX12_init 318 = .ok (.dup, 1) := by decide +kernel
theorem dX12_init_319 : decode cX12_init 319 = .ok (.bipush 11, 2) := by decide +kernel
theorem dX12_init_321 : decode cX12_init 321 = .ok (.bipush 103, 2) := by decide +kernel
theorem dX12_init_323 : decode cX12_init 323 = .ok (.iastore, 1) := by decide +kernel
theorem dX12_init_324 : decode cX12_init 324 = .ok (.dup, 1) := by decide +kernel
theorem dX12_init_325 : decode cX12_init 325 = .ok (.bipush 12, 2) := by decide +kernel
theorem dX12_init_327 : decode cX12_init 327 = .ok (.bipush 105, 2) := by decide +kernel
theorem dX12_init_329 : decode cX12_init 329 = .ok (.iastore, 1) := by decide +kernel
theorem dX12_init_330 : decode cX12_init 330 = .ok (.dup, 1) := by decide +kernel
theorem dX12_init_331 : decode cX12_init 331 = .ok (.bipush 13, 2) := by decide +kernel
theorem dX12_init_333 : decode cX12_init 333 = .ok (.bipush 110, 2) := by decide +kernel
theorem dX12_init_335 : decode cX12_init 335 = .ok (.iastore, 1) := by decide +kernel
theorem dX12_init_336 : decode cX12_init 336 = .ok (.dup, 1) := by decide +kernel
theorem dX12_init_337 : decode cX12_init 337 = .ok (.bipush 14, 2) := by decide +kernel
theorem dX12_init_339 : decode cX12_init 339 = .ok (.bipush 101, 2) := by decide +kernel
theorem dX12_init_341 : decode cX12_init 341 = .ok (.iastore, 1) := by decide +kernel
theorem dX12_init_342 : decode cX12_init 342 = .ok (.dup, 1) := by decide +kernel
theorem dX12_init_343 : decode cX12_init 343 = .ok (.bipush 15, 2) := by decide +kernel
theorem dX12_init_345 : decode cX12_init 345 = .ok (.bipush 110, 2) := by decide +kernel
theorem dX12_init_347 : decode cX12_init 347 = .ok (.iastore, 1) := by decide +kernel
theorem dX12_init_348 : decode cX12_init 348 = .ok (.dup, 1) := by decide +kernel
theorem dX12_init_349 : decode cX12_init 349 = .ok (.bipush 16, 2) := by decide +kernel
theorem dX12_init_351 : decode cX12_init 351 = .ok (.bipush 100, 2) := by decide +kernel
theorem dX12_init_353 : decode cX12_init 353 = .ok (.iastore, 1) := by decide +kernel
theorem dX12_init_354 : decode cX12_init 354 = .ok (.dup, 1) := by decide +kernel
theorem dX12_init_355 : decode cX12_init 355 = .ok (.bipush 17, 2) := by decide +kernel
theorem dX12_init_357 : decode cX12_init 357 = .ok (.bipush 99, 2) := by decide +kernel
theorem dX12_init_359 : decode cX12_init 359 = .ok (.iastore, 1) := by decide +kernel
theorem dX12_init_360 : decode cX12_init 360 = .ok (.dup, 1) := by decide +kernel
theorem dX12_init_361 : decode cX12_init 361 = .ok (.bipush 18, 2) := by decide +kernel
theorem dX12_init_363 : decode cX12_init 363 = .ok (.bipush 97, 2) := by decide +kernel
theorem dX12_init_365 : decode cX12_init 365 = .ok (.iastore, 1) := by decide +kernel
theorem dX12_init_366 : decode cX12_init 366 = .ok (.dup, 1) := by decide +kernel
theorem dX12_init_367 : decode cX12_init 367 = .ok (.bipush 19, 2) := by decide +kernel
theorem dX12_init_369 : decode cX12_init 369 = .ok (.bipush 115, 2) := by decide +kernel
theorem dX12_init_371 : decode cX12_init 371 = .ok (.iastore, 1) := by decide +kernel
theorem dX12_init_372 : decode cX12_init 372 = .ok (.dup, 1) := by decide +kernel
theorem dX12_init_373 : decode cX12_init 373 = .ok (.bipush 20, 2) := by decide +kernel
theorem dX12_init_375 : decode cX12_init 375 = .ok (.bipush 101, 2) := by decide +kernel
theorem dX12_init_377 : decode cX12_init 377 = .ok (.iastore, 1) := by decide +kernel
theorem dX12_init_378 : decode cX12_init 378 = .ok (.dup, 1) := by decide +kernel
theorem dX12_init_379 : decode cX12_init 379 = .ok (.bipush 21, 2) := by decide +kernel
theorem dX12_init_381 : decode cX12_init 381 = .ok (.bipush 34, 2) := by decide +kernel
theorem dX12_init_383 : decode cX12_init 383 = .ok (.iastore, 1) := by decide +kernel
theorem dX12_init_384 : decode cX12_init 384 = .ok (.dup, 1) := by decide +kernel
theorem dX12_init_385 : decode cX12_init 385 = .ok (.bipush 22, 2) := by decide +kernel
theorem dX12_init_387 : decode cX12_init 387 = .ok (.bipush 115, 2) := by decide +kernel
theorem dX12_init_389 : decode cX12_init 389 = .ok (.iastore, 1) := by decide +kernel
theorem dX12_init_390 : decode cX12_init 390 = .ok (.dup, 1) := by decide +kernel
theorem dX12_init_391 : decode cX12_init 391 = .ok (.bipush 23, 2) := by decide +kernel
theorem dX12_init_393 : decode cX12_init 393 = .ok (.bipush 34, 2) := by decide +kernel
theorem dX12_init_395 : decode cX12_init 395 = .ok (.iastore, 1) := by decide +kernel
theorem dX12_init_396 : decode cX12_init 396 = .ok (.dup, 1) := by decide +kernel
theorem dX12_init_397 : decode cX12_init 397 = .ok (.bipush 24, 2) := by decide +kernel
theorem dX12_init_399 : decode cX12_init 399 = .ok (.bipush 35, 2) := by decide +kernel
theorem dX12_init_401 : decode cX12_init 401 = .ok (.iastore, 1) := by decide +kernel
theorem dX12_init_402 : decode cX12_init 402 = .ok (.dup, 1) := by decide +kernel
theorem dX12_init_403 : decode cX12_init 403 = .ok (.bipush 25, 2) := by decide +kernel
theorem dX12_init_405 : decode cX12_init 405 = .ok (.bipush 99, 2) := by decide +kernel
theorem dX12_init_407 : decode cX12_init 407 = .ok (.iastore, 1) := by decide +kernel
theorem dX12_init_408 : decode cX12_init 408 = .ok (.dup, 1) := by decide +kernel
theorem dX12_init_409 : decode cX12_init 409 = .ok (.bipush 26, 2) := by decide +kernel
theorem dX12_init_411 : decode cX12_init 411 = .ok (.bipush 121, 2) := by decide +kernel
theorem dX12_init_413 : decode cX12_init 413 = .ok (.iastore, 1) := by decide +kernel
theorem dX12_init_414 : decode cX12_init 414 = .ok (.dup, 1) := by decide +kernel
theorem dX12_init_415 : decode cX12_init 415 = .ok (.bipush 27, 2) := by decide +kernel
theorem dX12_init_417 : decode cX12_init 417 = .ok (.bipush 43, 2) := by decide +kernel
theorem dX12_init_419 : decode cX12_init 419 = .ok (.iastore, 1) := by decide +kernel
theorem dX12_init_420 : decode cX12_init 420 = .ok (.dup, 1) := by decide +kernel
theorem dX12_init_421 : decode cX12_init 421 = .ok (.bipush 28, 2) := by decide +kernel
theorem dX12_init_423 : decode cX12_init 423 = .ok (.bipush 34, 2) := by decide +kernel
theorem dX12_init_425 : decode cX12_init 425 = .ok (.iastore, 1) := by decide +kernel
theorem dX12_init_426 : decode cX12_init 426 = .ok (.dup, 1) := by decide +kernel
theorem dX12_init_427 : decode cX12_init 427 = .ok (.bipush 29, 2) := by decide +kernel
theorem dX12_init_429 : decode cX12_init 429 = .ok (.bipush 34, 2) := by decide +kernel
theorem dX12_init_431 : decode cX12_init 431 = .ok (.iastore, 1) := by decide +kernel
theorem dX12_init_432 : decode cX12_init 432 = .ok (.dup, 1) := by decide +kernel
theorem dX12_init_433 : decode cX12_init 433 = .ok (.bipush 30, 2) := by decide +kernel
theorem dX12_init_435 : decode cX12_init 435 = .ok (.bipush 34, 2) := by decide +kernel
theorem dX12_init_437 : decode cX12_init 437 = .ok (.iastore, 1) := by decide +kernel
theorem dX12_init_438 : decode cX12_init 438 = .ok (.dup, 1) := by decide +kernel
theorem dX12_init_439 : decode cX12_init 439 = .ok (.bipush 31, 2) := by decide +kernel
theorem dX12_init_441 : decode cX12_init 441 = .ok (.bipush 122, 2) := by decide +kernel
theorem dX12_init_443 : decode cX12_init 443 = .ok (.iastore, 1) := by decide +kernel
theorem dX12_init_444 : decode cX12_init 444 = .ok (.dup, 1) := by decide +kernel
theorem dX12_init_445 : decode cX12_init 445 = .ok (.bipush 32, 2) := by decide +kernel
theorem dX12_init_447 : decode cX12_init 447 = .ok (.bipush 102, 2) := by decide +kernel
theorem dX12_init_449 : decode cX12_init 449 = .ok (.iastore, 1) := by decide +kernel
theorem dX12_init_450 : decode cX12_init 450 = .ok (.dup, 1) := by decide +kernel
theorem dX12_init_451 : decode cX12_init 451 = .ok (.bipush 33, 2) := by decide +kernel
theorem dX12_init_453 : decode cX12_init 453 = .ok (.bipush 40, 2) := by decide +kernel
theorem dX12_init_455 : decode cX12_init 455 = .ok (.iastore, 1) := by decide +kernel
theorem dX12_init_456 : decode cX12_init 456 = .ok (.dup, 1) := by decide +kernel
theorem dX12_init_457 : decode cX12_init 457 = .ok (.bipush 34, 2) := by decide +kernel
theorem dX12_init_459 : decode cX12_init 459 = .ok (.bipush 98, 2) := by decide +kernel
theorem dX12_init_461 : decode cX12_init 461 = .ok (.iastore, 1) := by decide +kernel
theorem dX12_init_462 : decode cX12_init 462 = .ok (.dup, 1) := by decide +kernel
theorem dX12_init_463 : decode cX12_init 463 = .ok (.bipush 35, 2) := by decide +kernel
theorem dX12_init_465 : decode cX12_init 465 = .ok (.bipush 44, 2) := by decide +kernel
theorem dX12_init_467 : decode cX12_init 467 = .ok (.iastore, 1) := by decide +kernel
theorem dX12_init_468 : decode cX12_init 468 = .ok (.dup, 1) := by decide +kernel
theorem dX12_init_469 : decode cX12_init 469 = .ok (.bipush 36, 2) := by decide +kernel
theorem dX12_init_471 : decode cX12_init 471 = .ok (.bipush 59, 2) := by decide +kernel
theorem dX12_init_473 : decode cX12_init 473 = .ok (.iastore, 1) := by decide +kernel
theorem dX12_init_474 : decode cX12_init 474 = .ok (.putfield 68, 3) := by decide +kernel
theorem dX12_init_477 : decode cX12_init 477 = .ok (.aload_n 0, 1) := by decide +kernel
theorem dX12_init_478 : decode cX12_init 478 = .ok (.getfield 7, 3) := by decide +kernel
theorem dX12_init_481 : decode cX12_init 481 = .ok (.sipush 977, 3) := by decide +kernel
theorem dX12_init_484 : decode cX12_init 484 = .ok (.iconst 4, 1) := by decide +kernel
theorem dX12_init_485 : decode cX12_init 485 = .ok (.iastore, 1) := by decide +kernel
theorem dX12_init_486 : decode cX12_init 486 = .ok (.aload_n 0, 1) := by decide +kernel
theorem dX12_init_487 : decode cX12_init 487 = .ok (.getfield 7, 3) := by decide +kernel
theorem dX12_init_490 : decode cX12_init 490 = .ok (.sipush 979, 3) := by decide +kernel
theorem dX12_init_493 : decode cX12_init 493 = .ok (.bipush 35, 2) := by decide +kernel
theorem dX12_init_495 : decode cX12_init 495 = .ok (.iastore, 1) := by decide +kernel
theorem dX12_init_496 : decode cX12_init 496 = .ok (.return_, 1) := by decide +kernel
theorem dX12_in_0 : decode cX12_in 0 = .ok (.iload_n 0, 1) := by decide +kernel
theorem dX12_in_1 : decode cX12_in 1 = .ok (.iload_n 1, 1) := by decide +kernel
theorem dX12_in_2 : decode cX12_in 2 = .ok (.if_icmp .lt 12, 3) := by decide +kernel
theorem dX12_in_5 : decode cX12_in 5 = .ok (.iload_n 0, 1) := by decide +kernel
theorem dX12_in_6 : decode cX12_in 6 = .ok (.iload_n 2, 1) := by decide +kernel
theorem dX12_in_7 : decode cX12_in 7 = .ok (.if_icmp .gt 7, 3) := by decide +kernel
theorem dX12_in_10 : decode cX12_in 10 = .ok (.iconst 1, 1) := by decide +kernel
theorem dX12_in_11 : decode cX12_in 11 = .ok (.goto 4, 3) := by decide +kernel
theorem dX12_in_14 : decode cX12_in 14 = .ok (.iconst 0, 1) := by decide +kernel
theorem dX12_in_15 : decode cX12_in 15 = .ok (.ireturn, 1) := by decide +kernel
theorem dX12_least_0 : decode cX12_least 0 = .ok (.iload_n 0, 1) := by decide +kernel
theorem dX12_least_1 : decode cX12_least 1 = .ok (.iload_n 1, 1) := by decide +kernel
theorem dX12_least_2 : decode cX12_least 2 = .ok (.if_icmp .ge 7, 3) := by decide +kernel
theorem dX12_least_5 : decode cX12_least 5 = .ok (.iload_n 0, 1) := by decide +kernel
theorem dX12_least_6 : decode cX12_least 6 = .ok (.goto 4, 3) := by decide +kernel
theorem dX12_least_9 : decode cX12_least 9 = .ok (.iload_n 1, 1) := by decide +kernel
theorem dX12_least_10 : decode cX12_least 10 = .ok (.ireturn, 1) := by decide +kernel
theorem dX12_copies_0 : decode cX12_copies 0 = .ok (.iconst 0, 1) := by decide +kernel
theorem dX12_copies_1 : decode cX12_copies 1 = .ok (.istore_n 3, 1) := by decide +kernel
theorem dX12_copies_2 : decode cX12_copies 2 = .ok (.iload_n 3, 1) := by decide +kernel
theorem dX12_copies_3 : decode cX12_copies 3 = .ok (.sipush 980, 3) := by decide +kernel
theorem dX12_copies_6 : decode cX12_copies 6 = .ok (.if_icmp .ge 33, 3) := by decide +kernel
theorem dX12_copies_9 : decode cX12_copies 9 = .ok (.aload_n 0, 1) := by decide +kernel
theorem dX12_copies_10 : decode cX12_copies 10 = .ok (.getfield 7, 3) := by decide +kernel
theorem dX12_copies_13 : decode cX12_copies 13 = .ok (.sipush 980, 3) := by decide +kernel
theorem dX12_copies_16 : decode cX12_copies 16 = .ok (.iload_n 2, 1) := by decide +kernel
theorem dX12_copies_17 : decode cX12_copies 17 = .ok (.imul, 1) := by decide +kernel
theorem dX12_copies_18 : decode cX12_copies 18 = .ok (.iload_n 3, 1) := by decide +kernel
theorem dX12_copies_19 : decode cX12_copies 19 = .ok (.iadd, 1) := by decide +kernel
theorem dX12_copies_20 : decode cX12_copies 20 = .ok (.aload_n 0, 1) := by decide +kernel
theorem dX12_copies_21 : decode cX12_copies 21 = .ok (.getfield 7, 3) := by decide +kernel
theorem dX12_copies_24 : decode cX12_copies 24 = .ok (.sipush 980, 3) := by decide +kernel
theorem dX12_copies_27 : decode cX12_copies 27 = .ok (.iload_n 1, 1) := by decide +kernel
theorem dX12_copies_28 : decode cX12_copies 28 = .ok (.imul, 1) := by decide +kernel
theorem dX12_copies_29 : decode cX12_copies 29 = .ok (.iload_n 3, 1) := by decide +kernel
theorem dX12_copies_30 : decode cX12_copies 30 = .ok (.iadd, 1) := by decide +kernel
theorem dX12_copies_31 : decode cX12_copies 31 = .ok (.iaload, 1) := by decide +kernel
theorem dX12_copies_32 : decode cX12_copies 32 = .ok (.iastore, 1) := by decide +kernel
theorem dX12_copies_33 : decode cX12_copies 33 = .ok (.iinc 3 1, 3) := by decide +kernel
theorem dX12_copies_36 : decode cX12_copies 36 = .ok (.goto (-34), 3) := by decide +kernel
theorem dX12_copies_39 : decode cX12_copies 39 = .ok (.return_, 1) := by decide +kernel
theorem dX12_begins_0 : decode cX12_begins 0 = .ok (.aload_n 0, 1) := by decide +kernel
theorem dX12_begins_1 : decode cX12_begins 1 = .ok (.getfield 71, 3) := by decide +kernel
theorem dX12_begins_4 : decode cX12_begins 4 = .ok (.bipush 8, 2) := by decide +kernel
theorem dX12_begins_6 : decode cX12_begins 6 = .ok (.if_icmp .ne 35, 3) := by decide +kernel
theorem dX12_begins_9 : decode cX12_begins 9 = .ok (.iconst 1, 1) := by decide +kernel
theorem dX12_begins_10 : decode cX12_begins 10 = .ok (.istore_n 1, 1) := by decide +kernel
theorem dX12_begins_11 : decode cX12_begins 11 = .ok (.iload_n 1, 1) := by decide +kernel
theorem dX12_begins_12 : decode cX12_begins 12 = .ok (.bipush 8, 2) := by decide +kernel
theorem dX12_begins_14 : decode cX12_begins 14 = .ok (.if_icmp .ge 17, 3) := by decide +kernel
theorem dX12_begins_17 : decode cX12_begins 17 = .ok (.aload_n 0, 1) := by decide +kernel
theorem dX12_begins_18 : decode cX12_begins 18 = .ok (.iload_n 1, 1) := by decide +kernel
theorem dX12_begins_19 : decode cX12_begins 19 = .ok (.iconst 1, 1) := by decide +kernel
theorem dX12_begins_20 : decode cX12_begins 20 = .ok (.iadd, 1) := by decide +kernel
theorem dX12_begins_21 : decode cX12_begins 21 = .ok (.iload_n 1, 1) := by decide +kernel
theorem dX12_begins_22 : decode cX12_begins 22 = .ok (.invokevirtual 75, 3) := by decide +kernel
theorem dX12_begins_25 : decode cX12_begins 25 = .ok (.iinc 1 1, 3) := by decide +kernel
theorem dX12_begins_28 : decode cX12_begins 28 = .ok (.goto (-17), 3) := by decide +kernel
theorem dX12_begins_31 : decode cX12_begins 31 = .ok (.aload_n 0, 1) := by decide +kernel
theorem dX12_begins_32 : decode cX12_begins 32 = .ok (.dup, 1) := by decide +kernel
theorem dX12_begins_33 : decode cX12_begins 33 = .ok (.getfield 71, 3) := by decide +kernel
theorem dX12_begins_36 : decode cX12_begins 36 = .ok (.iconst 1, 1) := by decide +kernel
theorem dX12_begins_37 : decode cX12_begins 37 = .ok (.isub, 1) := by decide +kernel
theorem dX12_begins_38 : decode cX12_begins 38 = .ok (.putfield 71, 3) := by decide +kernel
theorem dX12_begins_41 : decode cX12_begins 41 = .ok (.aload_n 0, 1) := by decide +kernel
theorem dX12_begins_42 : decode cX12_begins 42 = .ok (.iconst 0, 1) := by decide +kernel
theorem dX12_begins_43 : decode cX12_begins 43 = .ok (.iconst 1, 1) := by decide +kernel
theorem dX12_begins_44 : decode cX12_begins 44 = .ok (.aload_n 0, 1) := by decide +kernel
theorem dX12_begins_45 : decode cX12_begins 45 = .ok (.getfield 71, 3) := by decide +kernel
theorem dX12_begins_48 : decode cX12_begins 48 = .ok (.iadd, 1) := by decide +kernel
theorem dX12_begins_49 : decode cX12_begins 49 = .ok (.invokevirtual 75, 3) := by decide +kernel
theorem dX12_begins_52 : decode cX12_begins 52 = .ok (.aload_n 0, 1) := by decide +kernel
theorem dX12_begins_53 : decode cX12_begins 53 = .ok (.dup, 1) := by decide +kernel
theorem dX12_begins_54 : decode cX12_begins 54 = .ok (.getfield 71, 3) := by decide +kernel
theorem dX12_begins_57 : decode cX12_begins 57 = .ok (.iconst 1, 1) := by decide +kernel
theorem dX12_begins_58 : decode cX12_begins 58 = .ok (.iadd, 1) := by decide +kernel
theorem dX12_begins_59 : decode cX12_begins 59 = .ok (.putfield 71, 3) := by decide +kernel
theorem dX12_begins_62 : decode cX12_begins 62 = .ok (.return_, 1) := by decide +kernel
theorem dX12_isLine_0 : decode cX12_isLine 0 = .ok (.iload_n 1, 1) := by decide +kernel
theorem dX12_isLine_1 : decode cX12_isLine 1 = .ok (.iconst 0, 1) := by decide +kernel
theorem dX12_isLine_2 : decode cX12_isLine 2 = .ok (.aload_n 0, 1) := by decide +kernel
theorem dX12_isLine_3 : decode cX12_isLine 3 = .ok (.getfield 7, 3) := by decide +kernel
theorem dX12_isLine_6 : decode cX12_isLine 6 = .ok (.iconst 0, 1) := by decide +kernel
theorem dX12_isLine_7 : decode cX12_isLine 7 = .ok (.iaload, 1) := by decide +kernel
theorem dX12_isLine_8 : decode cX12_isLine 8 = .ok (.iconst 1, 1) := by decide +kernel
theorem dX12_isLine_9 : decode cX12_isLine 9 = .ok (.isub, 1) := by decide +kernel
theorem dX12_isLine_10 : decode cX12_isLine 10 = .ok (.invokestatic 79, 3) := by decide +kernel
theorem dX12_isLine_13 : decode cX12_isLine 13 = .ok (.ireturn, 1) := by decide +kernel
theorem dX12_isBlank_0 : decode cX12_isBlank 0 = .ok (.aload_n 0, 1) := by decide +kernel
theorem dX12_isBlank_1 : decode cX12_isBlank 1 = .ok (.getfield 7, 3) := by decide +kernel
theorem dX12_isBlank_4 : decode cX12_isBlank 4 = .ok (.bipush 21, 2) := by decide +kernel
theorem dX12_isBlank_6 : decode cX12_isBlank 6 = .ok (.iload_n 1, 1) := by decide +kernel
theorem dX12_isBlank_7 : decode cX12_isBlank 7 = .ok (.iadd, 1) := by decide +kernel
theorem dX12_isBlank_8 : decode cX12_isBlank 8 = .ok (.iaload, 1) := by decide +kernel
theorem dX12_isBlank_9 : decode cX12_isBlank 9 = .ok (.ifCond .ne 7, 3) := by decide +kernel
theorem dX12_isBlank_12 : decode cX12_isBlank 12 = .ok (.iconst 1, 1) := by decide +kernel
theorem dX12_isBlank_13 : decode cX12_isBlank 13 = .ok (.goto 4, 3) := by decide +kernel
theorem dX12_isBlank_16 : decode cX12_isBlank 16 = .ok (.iconst 0, 1) := by decide +kernel
theorem dX12_isBlank_17 : decode cX12_isBlank 17 = .ok (.ireturn, 1) := by decide +kernel
theorem dX12_contentAt_0 : decode cX12_contentAt 0 = .ok (.iload_n 2, 1) := by decide +kernel
theorem dX12_contentAt_1 : decode cX12_contentAt 1 = .ok (.aload_n 0, 1) := by decide +kernel
theorem dX12_contentAt_2 : decode cX12_contentAt 2 = .ok (.getfield 7, 3) := by decide +kernel
theorem dX12_contentAt_5 : decode cX12_contentAt 5 = .ok (.bipush 21, 2) := by decide +kernel
theorem dX12_contentAt_7 : decode cX12_contentAt 7 = .ok (.iload_n 1, 1) := by decide +kernel
theorem dX12_contentAt_8 : decode cX12_contentAt 8 = .ok (.iadd, 1) := by decide +kernel
theorem dX12_contentAt_9 : decode cX12_contentAt 9 = .ok (.iaload, 1) := by decide +kernel
theorem dX12_contentAt_10 : decode cX12_contentAt 10 = .ok (.if_icmp .ge 20, 3) := by decide +kernel
theorem dX12_contentAt_13 : decode cX12_contentAt 13 = .ok (.aload_n 0, 1) := by decide +kernel
theorem dX12_contentAt_14 : decode cX12_contentAt 14 = .ok (.getfield 7, 3) := by decide +kernel
theorem dX12_contentAt_17 : decode cX12_contentAt 17 = .ok (.bipush 61, 2) := by decide +kernel
theorem dX12_contentAt_19 : decode cX12_contentAt 19 = .ok (.bipush 32, 2) := by decide +kernel
theorem dX12_contentAt_21 : decode cX12_contentAt 21 = .ok (.iload_n 1, 1) := by decide +kernel
theorem dX12_contentAt_22 : decode cX12_contentAt 22 = .ok (.imul, 1) := by decide +kernel
theorem dX12_contentAt_23 : decode cX12_contentAt 23 = .ok (.iadd, 1) := by decide +kernel
theorem dX12_contentAt_24 : decode cX12_contentAt 24 = .ok (.iload_n 2, 1) := by decide +kernel
theorem dX12_contentAt_25 : decode cX12_contentAt 25 = .ok (.iadd, 1) := by decide +kernel
theorem dX12_contentAt_26 : decode cX12_contentAt 26 = .ok (.iaload, 1) := by decide +kernel
theorem dX12_contentAt_27 : decode cX12_contentAt 27 = .ok (.goto 5, 3) := by decide +kernel
theorem dX12_contentAt_30 : decode cX12_contentAt 30 = .ok (.bipush (-9), 2) := by decide +kernel
theorem dX12_contentAt_32 : decode cX12_contentAt 32 = .ok (.ireturn, 1) := by decide +kernel
theorem dX12_isWord_0 : decode cX12_isWord 0 = .ok (.iload_n 0, 1) := by decide +kernel
theorem dX12_isWord_1 : decode cX12_isWord 1 = .ok (.bipush 97, 2) := by decide +kernel
theorem dX12_isWord_3 : decode cX12_isWord 3 = .ok (.bipush 122, 2) := by decide +kernel
theorem dX12_isWord_5 : decode cX12_isWord 5 = .ok (.invokestatic 79, 3) := by decide +kernel
theorem dX12_isWord_8 : decode cX12_isWord 8 = .ok (.ifCond .ne 31, 3) := by decide +kernel
theorem dX12_isWord_11 : decode cX12_isWord 11 = .ok (.iload_n 0, 1) := by decide +kernel
theorem dX12_isWord_12 : decode cX12_isWord 12 = .ok (.bipush 65, 2) := by decide +kernel
theorem dX12_isWord_14 : decode cX12_isWord 14 = .ok (.bipush 90, 2) := by decide +kernel
theorem dX12_isWord_16 : decode cX12_isWord 16 = .ok (.invokestatic 79, 3) := by decide +kernel
theorem dX12_isWord_19 : decode cX12_isWord 19 = .ok (.ifCond .ne 20, 3) := by decide +kernel
theorem dX12_isWord_22 : decode cX12_isWord 22 = .ok (.iload_n 0, 1) := by decide +kernel
theorem dX12_isWord_23 : decode cX12_isWord 23 = .ok (.bipush 48, 2) := by decide +kernel
theorem dX12_isWord_25 : decode cX12_isWord 25 = .ok (.bipush 57, 2) := by decide +kernel
theorem dX12_isWord_27 : decode cX12_isWord 27 = .ok (.invokestatic 79, 3) := by decide +kernel
theorem dX12_isWord_30 : decode cX12_isWord 30 = .ok (.ifCond .ne 9, 3) := by decide +kernel
theorem dX12_isWord_33 : decode cX12_isWord 33 = .ok (.iload_n 0, 1) := by decide +kernel
theorem dX12_isWord_34 : decode cX12_isWord 34 = .ok (.bipush 95, 2) := by decide +kernel
theorem dX12_isWord_36 : decode cX12_isWord 36 = .ok (.if_icmp .ne 7, 3) := by decide +kernel
theorem dX12_isWord_39 : decode cX12_isWord 39 = .ok (.iconst 1, 1) := by decide +kernel
theorem dX12_isWord_40 : decode cX12_isWord 40 = .ok (.goto 4, 3) := by decide +kernel
theorem dX12_isWord_43 : decode cX12_isWord 43 = .ok (.iconst 0, 1) := by decide +kernel
theorem dX12_isWord_44 : decode cX12_isWord 44 = .ok (.ireturn, 1) := by decide +kernel
theorem dX12_isTriple_0 : decode cX12_isTriple 0 = .ok (.aload_n 0, 1) := by decide +kernel
theorem dX12_isTriple_1 : decode cX12_isTriple 1 = .ok (.iload_n 1, 1) := by decide +kernel
theorem dX12_isTriple_2 : decode cX12_isTriple 2 = .ok (.iload_n 2, 1) := by decide +kernel
theorem dX12_isTriple_3 : decode cX12_isTriple 3 = .ok (.invokevirtual 83, 3) := by decide +kernel
theorem dX12_isTriple_6 : decode cX12_isTriple 6 = .ok (.bipush 34, 2) := by decide +kernel
theorem dX12_isTriple_8 : decode cX12_isTriple 8 = .ok (.if_icmp .ne 33, 3) := by decide +kernel
theorem dX12_isTriple_11 : decode cX12_isTriple 11 = .ok (.aload_n 0, 1) := by decide +kernel
theorem dX12_isTriple_12 : decode cX12_isTriple 12 = .ok (.iload_n 1, 1) := by decide +kernel
theorem dX12_isTriple_13 : decode cX12_isTriple 13 = .ok (.iload_n 2, 1) := by decide +kernel
theorem dX12_isTriple_14 : decode cX12_isTriple 14 = .ok (.iconst 1, 1) := by decide +kernel
theorem dX12_isTriple_15 : decode cX12_isTriple 15 = .ok (.iadd, 1) := by decide +kernel
theorem dX12_isTriple_16 : decode cX12_isTriple 16 = .ok (.invokevirtual 83, 3) := by decide +kernel
theorem dX12_isTriple_19 : decode cX12_isTriple 19 = .ok (.bipush 34, 2) := by decide +kernel
theorem dX12_isTriple_21 : decode cX12_isTriple 21 = .ok (.if_icmp .ne 20, 3) := by decide +kernel
theorem dX12_isTriple_24 : decode cX12_isTriple 24 = .ok (.aload_n 0, 1) := by decide +kernel
theorem dX12_isTriple_25 : decode cX12_isTriple 25 = .ok (.iload_n 1, 1) := by decide +kernel
theorem dX12_isTriple_26 : decode cX12_isTriple 26 = .ok (.iload_n 2, 1) := by decide +kernel
theorem dX12_isTriple_27 : decode cX12_isTriple 27 = .ok (.iconst 2, 1) := by decide +kernel
theorem dX12_isTriple_28 : decode cX12_isTriple 28 = .ok (.iadd, 1) := by decide +kernel
theorem dX12_isTriple_29 : decode cX12_isTriple 29 = .ok (.invokevirtual 83, 3) := by decide +kernel
theorem dX12_isTriple_32 : decode cX12_isTriple 32 = .ok (.bipush 34, 2) := by decide +kernel
theorem dX12_isTriple_34 : decode cX12_isTriple 34 = .ok (.if_icmp .ne 7, 3) := by decide +kernel
theorem dX12_isTriple_37 : decode cX12_isTriple 37 = .ok (.iconst 1, 1) := by decide +kernel
theorem dX12_isTriple_38 : decode cX12_isTriple 38 = .ok (.goto 4, 3) := by decide +kernel
theorem dX12_isTriple_41 : decode cX12_isTriple 41 = .ok (.iconst 0, 1) := by decide +kernel
theorem dX12_isTriple_42 : decode cX12_isTriple 42 = .ok (.ireturn, 1) := by decide +kernel
theorem dX12_endOfLiteral_0 : decode cX12_endOfLiteral 0 = .ok (.iload_n 2, 1) := by decide +kernel
theorem dX12_endOfLiteral_1 : decode cX12_endOfLiteral 1 = .ok (.istore_n 3, 1) := by decide +kernel
theorem dX12_endOfLiteral_2 : decode cX12_endOfLiteral 2 = .ok (.iload_n 3, 1) := by decide +kernel
theorem dX12_endOfLiteral_3 : decode cX12_endOfLiteral 3 = .ok (.iconst 2, 1) := by decide +kernel
theorem dX12_endOfLiteral_4 : decode cX12_endOfLiteral 4 = .ok (.iadd, 1) := by decide +kernel
theorem dX12_endOfLiteral_5 : decode cX12_endOfLiteral 5 = .ok (.aload_n 0, 1) := by decide +kernel
theorem dX12_endOfLiteral_6 : decode cX12_endOfLiteral 6 = .ok (.getfield 7, 3) := by decide +kernel
theorem dX12_endOfLiteral_9 : decode cX12_endOfLiteral 9 = .ok (.bipush 21, 2) := by decide +kernel
theorem dX12_endOfLiteral_11 : decode cX12_endOfLiteral 11 = .ok (.iload_n 1, 1) := by decide +kernel
theorem dX12_endOfLiteral_12 : decode cX12_endOfLiteral 12 = .ok (.iadd, 1) := by decide +kernel
theorem dX12_endOfLiteral_13 : decode cX12_endOfLiteral 13 = .ok (.iaload, 1) := by decide +kernel
theorem dX12_endOfLiteral_14 : decode cX12_endOfLiteral 14 = .ok (.if_icmp .ge 22, 3) := by decide +kernel
theorem dX12_endOfLiteral_17 : decode cX12_endOfLiteral 17 = .ok (.aload_n 0, 1) := by decide +kernel
theorem dX12_endOfLiteral_18 : decode cX12_endOfLiteral 18 = .ok (.iload_n 1, 1) := by decide +kernel
theorem dX12_endOfLiteral_19 : decode cX12_endOfLiteral 19 = .ok (.iload_n 3, 1) := by decide +kernel
theorem dX12_endOfLiteral_20 : decode cX12_endOfLiteral 20 = .ok (.invokevirtual 87, 3) := by decide +kernel
theorem dX12_endOfLiteral_23 : decode cX12_endOfLiteral 23 = .ok (.ifCond .eq 7, 3) := by decide +kernel
theorem dX12_endOfLiteral_26 : decode cX12_endOfLiteral 26 = .ok (.iload_n 3, 1) := by decide +kernel
theorem dX12_endOfLiteral_27 : decode cX12_endOfLiteral 27 = .ok (.iconst 3, 1) := by decide +kernel
theorem dX12_endOfLiteral_28 : decode cX12_endOfLiteral 28 = .ok (.iadd, 1) := by decide +kernel
theorem dX12_endOfLiteral_29 : decode cX12_endOfLiteral 29 = .ok (.ireturn, 1) := by decide +kernel
theorem dX12_endOfLiteral_30 : decode cX12_endOfLiteral 30 = .ok (.iinc 3 1, 3) := by decide +kernel
theorem dX12_endOfLiteral_33 : decode cX12_endOfLiteral 33 = .ok (.goto (-31), 3) := by decide +kernel
theorem dX12_endOfLiteral_36 : decode cX12_endOfLiteral 36 = .ok (.bipush (-9), 2) := by decide +kernel
theorem dX12_endOfLiteral_38 : decode cX12_endOfLiteral 38 = .ok (.ireturn, 1) := by decide +kernel
theorem dX12_endOfString_0 : decode cX12_endOfString 0 = .ok (.iload_n 2, 1) := by decide +kernel
theorem dX12_endOfString_1 : decode cX12_endOfString 1 = .ok (.iconst 1, 1) := by decide +kernel
theorem dX12_endOfString_2 : decode cX12_endOfString 2 = .ok (.iadd, 1) := by decide +kernel
theorem dX12_endOfString_3 : decode cX12_endOfString 3 = .ok (.istore_n 3, 1) := by decide +kernel
theorem dX12_endOfString_4 : decode cX12_endOfString 4 = .ok (.iload_n 3, 1) := by decide +kernel
theorem dX12_endOfString_5 : decode cX12_endOfString 5 = .ok (.aload_n 0, 1) := by decide +kernel
theorem dX12_endOfString_6 : decode cX12_endOfString 6 = .ok (.getfield 7, 3) := by decide +kernel
theorem dX12_endOfString_9 : decode cX12_endOfString 9 = .ok (.bipush 21, 2) := by decide +kernel
theorem dX12_endOfString_11 : decode cX12_endOfString 11 = .ok (.iload_n 1, 1) := by decide +kernel
theorem dX12_endOfString_12 : decode cX12_endOfString 12 = .ok (.iadd, 1) := by decide +kernel
theorem dX12_endOfString_13 : decode cX12_endOfString 13 = .ok (.iaload, 1) := by decide +kernel
theorem dX12_endOfString_14 : decode cX12_endOfString 14 = .ok (.if_icmp .ge 36, 3) := by decide +kernel
theorem dX12_endOfString_17 : decode cX12_endOfString 17 = .ok (.aload_n 0, 1) := by decide +kernel
theorem dX12_endOfString_18 : decode cX12_endOfString 18 = .ok (.iload_n 1, 1) := by decide +kernel
theorem dX12_endOfString_19 : decode cX12_endOfString 19 = .ok (.iload_n 3, 1) := by decide +kernel
theorem dX12_endOfString_20 : decode cX12_endOfString 20 = .ok (.invokevirtual 83, 3) := by decide +kernel
theorem dX12_endOfString_23 : decode cX12_endOfString 23 = .ok (.bipush 34, 2) := by decide +kernel
theorem dX12_endOfString_25 : decode cX12_endOfString 25 = .ok (.if_icmp .eq 25, 3) := by decide +kernel
theorem dX12_endOfString_28 : decode cX12_endOfString 28 = .ok (.iload_n 3, 1) := by decide +kernel
theorem dX12_endOfString_29 : decode cX12_endOfString 29 = .ok (.aload_n 0, 1) := by decide +kernel
theorem dX12_endOfString_30 : decode cX12_endOfString 30 = .ok (.iload_n 1, 1) := by decide +kernel
theorem dX12_endOfString_31 : decode cX12_endOfString 31 = .ok (.iload_n 3, 1) := by decide +kernel
theorem dX12_endOfString_32 : decode cX12_endOfString 32 = .ok (.invokevirtual 83, 3) := by decide +kernel
theorem dX12_endOfString_35 : decode cX12_endOfString 35 = .ok (.bipush 92, 2) := by decide +kernel
theorem dX12_endOfString_37 : decode cX12_endOfString 37 = .ok (.if_icmp .ne 7, 3) := by decide +kernel
theorem dX12_endOfString_40 : decode cX12_endOfString 40 = .ok (.iconst 2, 1) := by decide +kernel
theorem dX12_endOfString_41 : decode cX12_endOfString 41 = .ok (.goto 4, 3) := by decide +kernel
theorem dX12_endOfString_44 : decode cX12_endOfString 44 = .ok (.iconst 1, 1) := by decide +kernel
theorem dX12_endOfString_45 : decode cX12_endOfString 45 = .ok (.iadd, 1) := by decide +kernel
theorem dX12_endOfString_46 : decode cX12_endOfString 46 = .ok (.istore_n 3, 1) := by decide +kernel
theorem dX12_endOfString_47 : decode cX12_endOfString 47 = .ok (.goto (-43), 3) := by decide +kernel
theorem dX12_endOfString_50 : decode cX12_endOfString 50 = .ok (.iload_n 3, 1) := by decide +kernel
theorem dX12_endOfString_51 : decode cX12_endOfString 51 = .ok (.iconst 1, 1) := by decide +kernel
theorem dX12_endOfString_52 : decode cX12_endOfString 52 = .ok (.iadd, 1) := by decide +kernel
theorem dX12_endOfString_53 : decode cX12_endOfString 53 = .ok (.aload_n 0, 1) := by decide +kernel
theorem dX12_endOfString_54 : decode cX12_endOfString 54 = .ok (.getfield 7, 3) := by decide +kernel
theorem dX12_endOfString_57 : decode cX12_endOfString 57 = .ok (.bipush 21, 2) := by decide +kernel
theorem dX12_endOfString_59 : decode cX12_endOfString 59 = .ok (.iload_n 1, 1) := by decide +kernel
theorem dX12_endOfString_60 : decode cX12_endOfString 60 = .ok (.iadd, 1) := by decide +kernel
theorem dX12_endOfString_61 : decode cX12_endOfString 61 = .ok (.iaload, 1) := by decide +kernel
theorem dX12_endOfString_62 : decode cX12_endOfString 62 = .ok (.invokestatic 91, 3) := by decide +kernel
theorem dX12_endOfString_65 : decode cX12_endOfString 65 = .ok (.ireturn, 1) := by decide +kernel
theorem dX12_endOfWord_0 : decode cX12_endOfWord 0 = .ok (.iload_n 2, 1) := by decide +kernel
theorem dX12_endOfWord_1 : decode cX12_endOfWord 1 = .ok (.istore_n 3, 1) := by decide +kernel
theorem dX12_endOfWord_2 : decode cX12_endOfWord 2 = .ok (.aload_n 0, 1) := by decide +kernel
theorem dX12_endOfWord_3 : decode cX12_endOfWord 3 = .ok (.iload_n 1, 1) := by decide +kernel
theorem dX12_endOfWord_4 : decode cX12_endOfWord 4 = .ok (.iload_n 3, 1) := by decide +kernel
theorem dX12_endOfWord_5 : decode cX12_endOfWord 5 = .ok (.invokevirtual 83, 3) := by decide +kernel
theorem dX12_endOfWord_8 : decode cX12_endOfWord 8 = .ok (.invokestatic 94, 3) := by decide +kernel
theorem dX12_endOfWord_11 : decode cX12_endOfWord 11 = .ok (.ifCond .eq 9, 3) := by decide +kernel
theorem dX12_endOfWord_14 : decode cX12_endOfWord 14 = .ok (.iinc 3 1, 3) := by decide +kernel
theorem dX12_endOfWord_17 : decode cX12_endOfWord 17 = .ok (.goto (-15), 3) := by decide +kernel
theorem dX12_endOfWord_20 : decode cX12_endOfWord 20 = .ok (.iload_n 3, 1) := by decide +kernel
theorem dX12_endOfWord_21 : decode cX12_endOfWord 21 = .ok (.ireturn, 1) := by decide +kernel
theorem dX12_adds_0 : decode cX12_adds 0 = .ok (.aload_n 0, 1) := by decide +kernel
theorem dX12_adds_1 : decode cX12_adds 1 = .ok (.getfield 20, 3) := by decide +kernel
theorem dX12_adds_4 : decode cX12_adds 4 = .ok (.aload_n 0, 1) := by decide +kernel
theorem dX12_adds_5 : decode cX12_adds 5 = .ok (.getfield 98, 3) := by decide +kernel
theorem dX12_adds_8 : decode cX12_adds 8 = .ok (.iload_n 1, 1) := by decide +kernel
theorem dX12_adds_9 : decode cX12_adds 9 = .ok (.iastore, 1) := by decide +kernel
theorem dX12_adds_10 : decode cX12_adds 10 = .ok (.aload_n 0, 1) := by decide +kernel
theorem dX12_adds_11 : decode cX12_adds 11 = .ok (.getfield 23, 3) := by decide +kernel
theorem dX12_adds_14 : decode cX12_adds 14 = .ok (.aload_n 0, 1) := by decide +kernel
theorem dX12_adds_15 : decode cX12_adds 15 = .ok (.getfield 98, 3) := by decide +kernel
theorem dX12_adds_18 : decode cX12_adds 18 = .ok (.iload_n 2, 1) := by decide +kernel
theorem dX12_adds_19 : decode cX12_adds 19 = .ok (.iastore, 1) := by decide +kernel
theorem dX12_adds_20 : decode cX12_adds 20 = .ok (.aload_n 0, 1) := by decide +kernel
theorem dX12_adds_21 : decode cX12_adds 21 = .ok (.getfield 26, 3) := by decide +kernel
theorem dX12_adds_24 : decode cX12_adds 24 = .ok (.aload_n 0, 1) := by decide +kernel
theorem dX12_adds_25 : decode cX12_adds 25 = .ok (.getfield 98, 3) := by decide +kernel
theorem dX12_adds_28 : decode cX12_adds 28 = .ok (.iload_n 3, 1) := by decide +kernel
theorem dX12_adds_29 : decode cX12_adds 29 = .ok (.iload_n 2, 1) := by decide +kernel
theorem dX12_adds_30 : decode cX12_adds 30 = .ok (.isub, 1) := by decide +kernel
theorem dX12_adds_31 : decode cX12_adds 31 = .ok (.iastore, 1) := by decide +kernel
theorem dX12_adds_32 : decode cX12_adds 32 = .ok (.aload_n 0, 1) := by decide +kernel
theorem dX12_adds_33 : decode cX12_adds 33 = .ok (.getfield 29, 3) := by decide +kernel
theorem dX12_adds_36 : decode cX12_adds 36 = .ok (.aload_n 0, 1) := by decide +kernel
theorem dX12_adds_37 : decode cX12_adds 37 = .ok (.getfield 98, 3) := by decide +kernel
theorem dX12_adds_40 : decode cX12_adds 40 = .ok (.iload 4, 2) := by decide +kernel
theorem dX12_adds_42 : decode cX12_adds 42 = .ok (.iastore, 1) := by decide +kernel
theorem dX12_adds_43 : decode cX12_adds 43 = .ok (.aload_n 0, 1) := by decide +kernel
theorem dX12_adds_44 : decode cX12_adds 44 = .ok (.dup, 1) := by decide +kernel
theorem dX12_adds_45 : decode cX12_adds 45 = .ok (.getfield 98, 3) := by decide +kernel
theorem dX12_adds_48 : decode cX12_adds 48 = .ok (.iconst 1, 1) := by decide +kernel
theorem dX12_adds_49 : decode cX12_adds 49 = .ok (.iadd, 1) := by decide +kernel
theorem dX12_adds_50 : decode cX12_adds 50 = .ok (.putfield 98, 3) := by decide +kernel
theorem dX12_adds_53 : decode cX12_adds 53 = .ok (.return_, 1) := by decide +kernel
theorem dX12_divides_0 : decode cX12_divides 0 = .ok (.iload_n 2, 1) := by decide +kernel
theorem dX12_divides_1 : decode cX12_divides 1 = .ok (.istore_n 3, 1) := by decide +kernel
theorem dX12_divides_2 : decode cX12_divides 2 = .ok (.iload_n 3, 1) := by decide +kernel
theorem dX12_divides_3 : decode cX12_divides 3 = .ok (.aload_n 0, 1) := by decide +kernel
theorem dX12_divides_4 : decode cX12_divides 4 = .ok (.getfield 7, 3) := by decide +kernel
theorem dX12_divides_7 : decode cX12_divides 7 = .ok (.bipush 21, 2) := by decide +kernel
theorem dX12_divides_9 : decode cX12_divides 9 = .ok (.iload_n 1, 1) := by decide +kernel
theorem dX12_divides_10 : decode cX12_divides 10 = .ok (.iadd, 1) := by decide +kernel
theorem dX12_divides_11 : decode cX12_divides 11 = .ok (.iaload, 1) := by decide +kernel
theorem dX12_divides_12 : decode cX12_divides 12 = .ok (.if_icmp .ge 189, 3) := by decide +kernel
theorem dX12_divides_15 : decode cX12_divides 15 = .ok (.aload_n 0, 1) := by decide +kernel
theorem dX12_divides_16 : decode cX12_divides 16 = .ok (.iload_n 1, 1) := by decide +kernel
theorem dX12_divides_17 : decode cX12_divides 17 = .ok (.iload_n 3, 1) := by decide +kernel
theorem dX12_divides_18 : decode cX12_divides 18 = .ok (.invokevirtual 83, 3) := by decide +kernel
theorem dX12_divides_21 : decode cX12_divides 21 = .ok (.istore 4, 2) := by decide +kernel
theorem dX12_divides_23 : decode cX12_divides 23 = .ok (.iload 4, 2) := by decide +kernel
theorem dX12_divides_25 : decode cX12_divides 25 = .ok (.bipush 32, 2) := by decide +kernel
theorem dX12_divides_27 : decode cX12_divides 27 = .ok (.if_icmp .ne 9, 3) := by decide +kernel
theorem dX12_divides_30 : decode cX12_divides 30 = .ok (.iinc 3 1, 3) := by decide +kernel
theorem dX12_divides_33 : decode cX12_divides 33 = .ok (.goto 165, 3) := by decide +kernel
theorem dX12_divides_36 : decode cX12_divides 36 = .ok (.aload_n 0, 1) := by decide +kernel
theorem dX12_divides_37 : decode cX12_divides 37 = .ok (.iload_n 1, 1) := by decide +kernel
theorem dX12_divides_38 : decode cX12_divides 38 = .ok (.iload_n 3, 1) := by decide +kernel
theorem dX12_divides_39 : decode cX12_divides 39 = .ok (.invokevirtual 87, 3) := by decide +kernel
theorem dX12_divides_42 : decode cX12_divides 42 = .ok (.ifCond .eq 56, 3) := by decide +kernel
theorem dX12_divides_45 : decode cX12_divides 45 = .ok (.aload_n 0, 1) := by decide +kernel
theorem dX12_divides_46 : decode cX12_divides 46 = .ok (.iload_n 1, 1) := by decide +kernel
theorem dX12_divides_47 : decode cX12_divides 47 = .ok (.iload_n 3, 1) := by decide +kernel
theorem dX12_divides_48 : decode cX12_divides 48 = .ok (.iconst 3, 1) := by decide +kernel
theorem dX12_divides_49 : decode cX12_divides 49 = .ok (.iadd, 1) := by decide +kernel
theorem dX12_divides_50 : decode cX12_divides 50 = .ok (.invokevirtual 101, 3) := by decide +kernel
theorem dX12_divides_53 : decode cX12_divides 53 = .ok (.istore 5, 2) := by decide +kernel
theorem dX12_divides_55 : decode cX12_divides 55 = .ok (.aload_n 0, 1) := by decide +kernel
theorem dX12_divides_56 : decode cX12_divides 56 = .ok (.iload_n 1, 1) := by decide +kernel
theorem dX12_divides_57 : decode cX12_divides 57 = .ok (.iload_n 3, 1) := by decide +kernel
theorem dX12_divides_58 : decode cX12_divides 58 = .ok (.iload 5, 2) := by decide +kernel
theorem dX12_divides_60 : decode cX12_divides 60 = .ok (.bipush (-9), 2) := by decide +kernel
theorem dX12_divides_62 : decode cX12_divides 62 = .ok (.if_icmp .ne 15, 3) := by decide +kernel
theorem dX12_divides_65 : decode cX12_divides 65 = .ok (.aload_n 0, 1) := by decide +kernel
theorem dX12_divides_66 : decode cX12_divides 66 = .ok (.getfield 7, 3) := by decide +kernel
theorem dX12_divides_69 : decode cX12_divides 69 = .ok (.bipush 21, 2) := by decide +kernel
theorem dX12_divides_71 : decode cX12_divides 71 = .ok (.iload_n 1, 1) := by decide +kernel
theorem dX12_divides_72 : decode cX12_divides 72 = .ok (.iadd, 1) := by decide +kernel
theorem dX12_divides_73 : decode cX12_divides 73 = .ok (.iaload, 1) := by decide +kernel
theorem dX12_divides_74 : decode cX12_divides 74 = .ok (.goto 5, 3) := by decide +kernel
theorem dX12_divides_77 : decode cX12_divides 77 = .ok (.iload 5, 2) := by decide +kernel
theorem dX12_divides_79 : decode cX12_divides 79 = .ok (.iconst 2, 1) := by decide +kernel
theorem dX12_divides_80 : decode cX12_divides 80 = .ok (.invokevirtual 104, 3) := by decide +kernel
theorem dX12_divides_83 : decode cX12_divides 83 = .ok (.iload 5, 2) := by decide +kernel
theorem dX12_divides_85 : decode cX12_divides 85 = .ok (.bipush (-9), 2) := by decide +kernel
theorem dX12_divides_87 : decode cX12_divides 87 = .ok (.if_icmp .ne 5, 3) := by decide +kernel
theorem dX12_divides_90 : decode cX12_divides 90 = .ok (.iconst 1, 1) := by decide +kernel
theorem dX12_divides_91 : decode cX12_divides 91 = .ok (.ireturn, 1) := by decide +kernel
theorem dX12_divides_92 : decode cX12_divides 92 = .ok (.iload 5, 2) := by decide +kernel
theorem dX12_divides_94 : decode cX12_divides 94 = .ok (.istore_n 3, 1) := by decide +kernel
theorem dX12_divides_95 : decode cX12_divides 95 = .ok (.goto 103, 3) := by decide +kernel
theorem dX12_divides_98 : decode cX12_divides 98 = .ok (.iload 4, 2) := by decide +kernel
theorem dX12_divides_100 : decode cX12_divides 100 = .ok (.bipush 34, 2) := by decide +kernel
theorem dX12_divides_102 : decode cX12_divides 102 = .ok (.if_icmp .ne 26, 3) := by decide +kernel
theorem dX12_divides_105 : decode cX12_divides 105 = .ok (.aload_n 0, 1) := by decide +kernel
theorem dX12_divides_106 : decode cX12_divides 106 = .ok (.iload_n 1, 1) := by decide +kernel
theorem dX12_divides_107 : decode cX12_divides 107 = .ok (.iload_n 3, 1) := by decide +kernel
theorem dX12_divides_108 : decode cX12_divides 108 = .ok (.invokevirtual 108, 3) := by decide +kernel
theorem dX12_divides_111 : decode cX12_divides 111 = .ok (.istore 5, 2) := by decide +kernel
theorem dX12_divides_113 : decode cX12_divides 113 = .ok (.aload_n 0, 1) := by decide +kernel
theorem dX12_divides_114 : decode cX12_divides 114 = .ok (.iload_n 1, 1) := by decide +kernel
theorem dX12_divides_115 : decode cX12_divides 115 = .ok (.iload_n 3, 1) := by decide +kernel
theorem dX12_divides_116 : decode cX12_divides 116 = .ok (.iload 5, 2) := by decide +kernel
theorem dX12_divides_118 : decode cX12_divides 118 = .ok (.iconst 2, 1) := by decide +kernel
theorem dX12_divides_119 : decode cX12_divides 119 = .ok (.invokevirtual 104, 3) := by decide +kernel
theorem dX12_divides_122 : decode cX12_divides 122 = .ok (.iload 5, 2) := by decide +kernel
theorem dX12_divides_124 : decode cX12_divides 124 = .ok (.istore_n 3, 1) := by decide +kernel
theorem dX12_divides_125 : decode cX12_divides 125 = .ok (.goto 73, 3) := by decide +kernel
theorem dX12_divides_128 : decode cX12_divides 128 = .ok (.iload 4, 2) := by decide +kernel
theorem dX12_divides_130 : decode cX12_divides 130 = .ok (.aload_n 0, 1) := by decide +kernel
theorem dX12_divides_131 : decode cX12_divides 131 = .ok (.getfield 7, 3) := by decide +kernel
theorem dX12_divides_134 : decode cX12_divides 134 = .ok (.sipush 979, 3) := by decide +kernel
theorem dX12_divides_137 : decode cX12_divides 137 = .ok (.iaload, 1) := by decide +kernel
theorem dX12_divides_138 : decode cX12_divides 138 = .ok (.if_icmp .ne 16, 3) := by decide +kernel
theorem dX12_divides_141 : decode cX12_divides 141 = .ok (.aload_n 0, 1) := by decide +kernel
theorem dX12_divides_142 : decode cX12_divides 142 = .ok (.getfield 7, 3) := by decide +kernel
theorem dX12_divides_145 : decode cX12_divides 145 = .ok (.bipush 21, 2) := by decide +kernel
theorem dX12_divides_147 : decode cX12_divides 147 = .ok (.iload_n 1, 1) := by decide +kernel
theorem dX12_divides_148 : decode cX12_divides 148 = .ok (.iadd, 1) := by decide +kernel
theorem dX12_divides_149 : decode cX12_divides 149 = .ok (.iaload, 1) := by decide +kernel
theorem dX12_divides_150 : decode cX12_divides 150 = .ok (.istore_n 3, 1) := by decide +kernel
theorem dX12_divides_151 : decode cX12_divides 151 = .ok (.goto 47, 3) := by decide +kernel
theorem dX12_divides_154 : decode cX12_divides 154 = .ok (.iload 4, 2) := by decide +kernel
theorem dX12_divides_156 : decode cX12_divides 156 = .ok (.invokestatic 94, 3) := by decide +kernel
theorem dX12_divides_159 : decode cX12_divides 159 = .ok (.ifCond .eq 26, 3) := by decide +kernel
theorem dX12_divides_162 : decode cX12_divides 162 = .ok (.aload_n 0, 1) := by decide +kernel
theorem dX12_divides_163 : decode cX12_divides 163 = .ok (.iload_n 1, 1) := by decide +kernel
theorem dX12_divides_164 : decode cX12_divides 164 = .ok (.iload_n 3, 1) := by decide +kernel
theorem dX12_divides_165 : decode cX12_divides 165 = .ok (.invokevirtual 111, 3) := by decide +kernel
theorem dX12_divides_168 : decode cX12_divides 168 = .ok (.istore 5, 2) := by decide +kernel
theorem dX12_divides_170 : decode cX12_divides 170 = .ok (.aload_n 0, 1) := by decide +kernel
theorem dX12_divides_171 : decode cX12_divides 171 = .ok (.iload_n 1, 1) := by decide +kernel
theorem dX12_divides_172 : decode cX12_divides 172 = .ok (.iload_n 3, 1) := by decide +kernel
theorem dX12_divides_173 : decode cX12_divides 173 = .ok (.iload 5, 2) := by decide +kernel
theorem dX12_divides_175 : decode cX12_divides 175 = .ok (.iconst 0, 1) := by decide +kernel
theorem dX12_divides_176 : decode cX12_divides 176 = .ok (.invokevirtual 104, 3) := by decide +kernel
theorem dX12_divides_179 : decode cX12_divides 179 = .ok (.iload 5, 2) := by decide +kernel
theorem dX12_divides_181 : decode cX12_divides 181 = .ok (.istore_n 3, 1) := by decide +kernel
theorem dX12_divides_182 : decode cX12_divides 182 = .ok (.goto 16, 3) := by decide +kernel
theorem dX12_divides_185 : decode cX12_divides 185 = .ok (.aload_n 0, 1) := by decide +kernel
theorem dX12_divides_186 : decode cX12_divides 186 = .ok (.iload_n 1, 1) := by decide +kernel
theorem dX12_divides_187 : decode cX12_divides 187 = .ok (.iload_n 3, 1) := by decide +kernel
theorem dX12_divides_188 : decode cX12_divides 188 = .ok (.iload_n 3, 1) := by decide +kernel
theorem dX12_divides_189 : decode cX12_divides 189 = .ok (.iconst 1, 1) := by decide +kernel
theorem dX12_divides_190 : decode cX12_divides 190 = .ok (.iadd, 1) := by decide +kernel
theorem dX12_divides_191 : decode cX12_divides 191 = .ok (.iconst 1, 1) := by decide +kernel
theorem dX12_divides_192 : decode cX12_divides 192 = .ok (.invokevirtual 104, 3) := by decide +kernel
theorem dX12_divides_195 : decode cX12_divides 195 = .ok (.iinc 3 1, 3) := by decide +kernel
theorem dX12_divides_198 : decode cX12_divides 198 = .ok (.goto (-196), 3) := by decide +kernel
theorem dX12_divides_201 : decode cX12_divides 201 = .ok (.iconst 0, 1) := by decide +kernel
theorem dX12_divides_202 : decode cX12_divides 202 = .ok (.ireturn, 1) := by decide +kernel
theorem dX12_tokenizes_0 : decode cX12_tokenizes 0 = .ok (.aload_n 0, 1) := by decide +kernel
theorem dX12_tokenizes_1 : decode cX12_tokenizes 1 = .ok (.iconst 0, 1) := by decide +kernel
theorem dX12_tokenizes_2 : decode cX12_tokenizes 2 = .ok (.putfield 98, 3) := by decide +kernel
theorem dX12_tokenizes_5 : decode cX12_tokenizes 5 = .ok (.iconst 0, 1) := by decide +kernel
theorem dX12_tokenizes_6 : decode cX12_tokenizes 6 = .ok (.istore_n 1, 1) := by decide +kernel
theorem dX12_tokenizes_7 : decode cX12_tokenizes 7 = .ok (.iconst 0, 1) := by decide +kernel
theorem dX12_tokenizes_8 : decode cX12_tokenizes 8 = .ok (.istore_n 2, 1) := by decide +kernel
theorem dX12_tokenizes_9 : decode cX12_tokenizes 9 = .ok (.iload_n 2, 1) := by decide +kernel
theorem dX12_tokenizes_10 : decode cX12_tokenizes 10 = .ok (.aload_n 0, 1) := by decide +kernel
theorem dX12_tokenizes_11 : decode cX12_tokenizes 11 = .ok (.getfield 7, 3) := by decide +kernel
theorem dX12_tokenizes_14 : decode cX12_tokenizes 14 = .ok (.iconst 0, 1) := by decide +kernel
theorem dX12_tokenizes_15 : decode cX12_tokenizes 15 = .ok (.iaload, 1) := by decide +kernel
theorem dX12_tokenizes_16 : decode cX12_tokenizes 16 = .ok (.if_icmp .ge 84, 3) := by decide +kernel
theorem dX12_tokenizes_19 : decode cX12_tokenizes 19 = .ok (.aload_n 0, 1) := by decide +kernel
theorem dX12_tokenizes_20 : decode cX12_tokenizes 20 = .ok (.getfield 41, 3) := by decide +kernel
theorem dX12_tokenizes_23 : decode cX12_tokenizes 23 = .ok (.iload_n 2, 1) := by decide +kernel
theorem dX12_tokenizes_24 : decode cX12_tokenizes 24 = .ok (.aload_n 0, 1) := by decide +kernel
theorem dX12_tokenizes_25 : decode cX12_tokenizes 25 = .ok (.getfield 98, 3) := by decide +kernel
theorem dX12_tokenizes_28 : decode cX12_tokenizes 28 = .ok (.iastore, 1) := by decide +kernel
theorem dX12_tokenizes_29 : decode cX12_tokenizes 29 = .ok (.aload_n 0, 1) := by decide +kernel
theorem dX12_tokenizes_30 : decode cX12_tokenizes 30 = .ok (.getfield 44, 3) := by decide +kernel
theorem dX12_tokenizes_33 : decode cX12_tokenizes 33 = .ok (.iload_n 2, 1) := by decide +kernel
theorem dX12_tokenizes_34 : decode cX12_tokenizes 34 = .ok (.iload_n 1, 1) := by decide +kernel
theorem dX12_tokenizes_35 : decode cX12_tokenizes 35 = .ok (.ifCond .eq 15, 3) := by decide +kernel
theorem dX12_tokenizes_38 : decode cX12_tokenizes 38 = .ok (.aload_n 0, 1) := by decide +kernel
theorem dX12_tokenizes_39 : decode cX12_tokenizes 39 = .ok (.iload_n 2, 1) := by decide +kernel
theorem dX12_tokenizes_40 : decode cX12_tokenizes 40 = .ok (.invokevirtual 114, 3) := by decide +kernel
theorem dX12_tokenizes_43 : decode cX12_tokenizes 43 = .ok (.ifCond .ne 7, 3) := by decide +kernel
theorem dX12_tokenizes_46 : decode cX12_tokenizes 46 = .ok (.iconst 1, 1) := by decide +kernel
theorem dX12_tokenizes_47 : decode cX12_tokenizes 47 = .ok (.goto 4, 3) := by decide +kernel
theorem dX12_tokenizes_50 : decode cX12_tokenizes 50 = .ok (.iconst 0, 1) := by decide +kernel
theorem dX12_tokenizes_51 : decode cX12_tokenizes 51 = .ok (.bastore, 1) := by decide +kernel
theorem dX12_tokenizes_52 : decode cX12_tokenizes 52 = .ok (.iload_n 1, 1) := by decide +kernel
theorem dX12_tokenizes_53 : decode cX12_tokenizes 53 = .ok (.ifCond .eq 34, 3) := by decide +kernel
theorem dX12_tokenizes_56 : decode cX12_tokenizes 56 = .ok (.aload_n 0, 1) := by decide +kernel
theorem dX12_tokenizes_57 : decode cX12_tokenizes 57 = .ok (.iload_n 2, 1) := by decide +kernel
theorem dX12_tokenizes_58 : decode cX12_tokenizes 58 = .ok (.iconst 0, 1) := by decide +kernel
theorem dX12_tokenizes_59 : decode cX12_tokenizes 59 = .ok (.invokevirtual 101, 3) := by decide +kernel
theorem dX12_tokenizes_62 : decode cX12_tokenizes 62 = .ok (.istore_n 3, 1) := by decide +kernel
theorem dX12_tokenizes_63 : decode cX12_tokenizes 63 = .ok (.iload_n 3, 1) := by decide +kernel
theorem dX12_tokenizes_64 : decode cX12_tokenizes 64 = .ok (.bipush (-9), 2) := by decide +kernel
theorem dX12_tokenizes_66 : decode cX12_tokenizes 66 = .ok (.if_icmp .eq 12, 3) := by decide +kernel
theorem dX12_tokenizes_69 : decode cX12_tokenizes 69 = .ok (.aload_n 0, 1) := by decide +kernel
theorem dX12_tokenizes_70 : decode cX12_tokenizes 70 = .ok (.iload_n 2, 1) := by decide +kernel
theorem dX12_tokenizes_71 : decode cX12_tokenizes 71 = .ok (.iload_n 3, 1) := by decide +kernel
theorem dX12_tokenizes_72 : decode cX12_tokenizes 72 = .ok (.invokevirtual 117, 3) := by decide +kernel
theorem dX12_tokenizes_75 : decode cX12_tokenizes 75 = .ok (.ifCond .eq 7, 3) := by decide +kernel
theorem dX12_tokenizes_78 : decode cX12_tokenizes 78 = .ok (.iconst 1, 1) := by decide +kernel
theorem dX12_tokenizes_79 : decode cX12_tokenizes 79 = .ok (.goto 4, 3) := by decide +kernel
theorem dX12_tokenizes_82 : decode cX12_tokenizes 82 = .ok (.iconst 0, 1) := by decide +kernel
theorem dX12_tokenizes_83 : decode cX12_tokenizes 83 = .ok (.istore_n 1, 1) := by decide +kernel
theorem dX12_tokenizes_84 : decode cX12_tokenizes 84 = .ok (.goto 10, 3) := by decide +kernel
theorem dX12_tokenizes_87 : decode cX12_tokenizes 87 = .ok (.aload_n 0, 1) := by decide +kernel
theorem dX12_tokenizes_88 : decode cX12_tokenizes 88 = .ok (.iload_n 2, 1) := by decide +kernel
theorem dX12_tokenizes_89 : decode cX12_tokenizes 89 = .ok (.iconst 0, 1) := by decide +kernel
theorem dX12_tokenizes_90 : decode cX12_tokenizes 90 = .ok (.invokevirtual 117, 3) := by decide +kernel
theorem dX12_tokenizes_93 : decode cX12_tokenizes 93 = .ok (.istore_n 1, 1) := by decide +kernel
theorem dX12_tokenizes_94 : decode cX12_tokenizes 94 = .ok (.iinc 2 1, 3) := by decide +kernel
theorem dX12_tokenizes_97 : decode cX12_tokenizes 97 = .ok (.goto (-88), 3) := by decide +kernel
theorem dX12_tokenizes_100 : decode cX12_tokenizes 100 = .ok (.aload_n 0, 1) := by decide +kernel
theorem dX12_tokenizes_101 : decode cX12_tokenizes 101 = .ok (.getfield 41, 3) := by decide +kernel
theorem dX12_tokenizes_104 : decode cX12_tokenizes 104 = .ok (.aload_n 0, 1) := by decide +kernel
theorem dX12_tokenizes_105 : decode cX12_tokenizes 105 = .ok (.getfield 7, 3) := by decide +kernel
theorem dX12_tokenizes_108 : decode cX12_tokenizes 108 = .ok (.iconst 0, 1) := by decide +kernel
theorem dX12_tokenizes_109 : decode cX12_tokenizes 109 = .ok (.iaload, 1) := by decide +kernel
theorem dX12_tokenizes_110 : decode cX12_tokenizes 110 = .ok (.aload_n 0, 1) := by decide +kernel
theorem dX12_tokenizes_111 : decode cX12_tokenizes 111 = .ok (.getfield 98, 3) := by decide +kernel
theorem dX12_tokenizes_114 : decode cX12_tokenizes 114 = .ok (.iastore, 1) := by decide +kernel
theorem dX12_tokenizes_115 : decode cX12_tokenizes 115 = .ok (.return_, 1) := by decide +kernel
theorem dX12_hasText_0 : decode cX12_hasText 0 = .ok (.sipush 701, 3) := by decide +kernel
theorem dX12_hasText_3 : decode cX12_hasText 3 = .ok (.bipush 23, 2) := by decide +kernel
theorem dX12_hasText_5 : decode cX12_hasText 5 = .ok (.iload_n 2, 1) := by decide +kernel
theorem dX12_hasText_6 : decode cX12_hasText 6 = .ok (.imul, 1) := by decide +kernel
theorem dX12_hasText_7 : decode cX12_hasText 7 = .ok (.iadd, 1) := by decide +kernel
theorem dX12_hasText_8 : decode cX12_hasText 8 = .ok (.iload_n 3, 1) := by decide +kernel
theorem dX12_hasText_9 : decode cX12_hasText 9 = .ok (.iadd, 1) := by decide +kernel
theorem dX12_hasText_10 : decode cX12_hasText 10 = .ok (.istore 4, 2) := by decide +kernel
theorem dX12_hasText_12 : decode cX12_hasText 12 = .ok (.aload_n 0, 1) := by decide +kernel
theorem dX12_hasText_13 : decode cX12_hasText 13 = .ok (.getfield 29, 3) := by decide +kernel
theorem dX12_hasText_16 : decode cX12_hasText 16 = .ok (.iload_n 1, 1) := by decide +kernel
theorem dX12_hasText_17 : decode cX12_hasText 17 = .ok (.iaload, 1) := by decide +kernel
theorem dX12_hasText_18 : decode cX12_hasText 18 = .ok (.iconst 2, 1) := by decide +kernel
theorem dX12_hasText_19 : decode cX12_hasText 19 = .ok (.if_icmp .ge 23, 3) := by decide +kernel
theorem dX12_hasText_22 : decode cX12_hasText 22 = .ok (.aload_n 0, 1) := by decide +kernel
theorem dX12_hasText_23 : decode cX12_hasText 23 = .ok (.getfield 26, 3) := by decide +kernel
theorem dX12_hasText_26 : decode cX12_hasText 26 = .ok (.iload_n 1, 1) := by decide +kernel
theorem dX12_hasText_27 : decode cX12_hasText 27 = .ok (.iaload, 1) := by decide +kernel
theorem dX12_hasText_28 : decode cX12_hasText 28 = .ok (.aload_n 0, 1) := by decide +kernel
theorem dX12_hasText_29 : decode cX12_hasText 29 = .ok (.getfield 7, 3) := by decide +kernel
theorem dX12_hasText_32 : decode cX12_hasText 32 = .ok (.iload 4, 2) := by decide +kernel
theorem dX12_hasText_34 : decode cX12_hasText 34 = .ok (.iaload, 1) := by decide +kernel
theorem dX12_hasText_35 : decode cX12_hasText 35 = .ok (.if_icmp .ne 7, 3) := by decide +kernel
theorem dX12_hasText_38 : decode cX12_hasText 38 = .ok (.iconst 1, 1) := by decide +kernel
theorem dX12_hasText_39 : decode cX12_hasText 39 = .ok (.goto 4, 3) := by decide +kernel
theorem dX12_hasText_42 : decode cX12_hasText 42 = .ok (.iconst 0, 1) := by decide +kernel
theorem dX12_hasText_43 : decode cX12_hasText 43 = .ok (.istore 5, 2) := by decide +kernel
theorem dX12_hasText_45 : decode cX12_hasText 45 = .ok (.iconst 0, 1) := by decide +kernel
theorem dX12_hasText_46 : decode cX12_hasText 46 = .ok (.istore 6, 2) := by decide +kernel
theorem dX12_hasText_48 : decode cX12_hasText 48 = .ok (.iload 6, 2) := by decide +kernel
theorem dX12_hasText_50 : decode cX12_hasText 50 = .ok (.aload_n 0, 1) := by decide +kernel
theorem dX12_hasText_51 : decode cX12_hasText 51 = .ok (.getfield 7, 3) := by decide +kernel
theorem dX12_hasText_54 : decode cX12_hasText 54 = .ok (.iload 4, 2) := by decide +kernel
theorem dX12_hasText_56 : decode cX12_hasText 56 = .ok (.iaload, 1) := by decide +kernel
theorem dX12_hasText_57 : decode cX12_hasText 57 = .ok (.if_icmp .ge 55, 3) := by decide +kernel
theorem dX12_hasText_60 : decode cX12_hasText 60 = .ok (.iload 5, 2) := by decide +kernel
theorem dX12_hasText_62 : decode cX12_hasText 62 = .ok (.ifCond .eq 50, 3) := by decide +kernel
theorem dX12_hasText_65 : decode cX12_hasText 65 = .ok (.aload_n 0, 1) := by decide +kernel
theorem dX12_hasText_66 : decode cX12_hasText 66 = .ok (.aload_n 0, 1) := by decide +kernel
theorem dX12_hasText_67 : decode cX12_hasText 67 = .ok (.getfield 20, 3) := by decide +kernel
theorem dX12_hasText_70 : decode cX12_hasText 70 = .ok (.iload_n 1, 1) := by decide +kernel
theorem dX12_hasText_71 : decode cX12_hasText 71 = .ok (.iaload, 1) := by decide +kernel
theorem dX12_hasText_72 : decode cX12_hasText 72 = .ok (.aload_n 0, 1) := by decide +kernel
theorem dX12_hasText_73 : decode cX12_hasText 73 = .ok (.getfield 23, 3) := by decide +kernel
theorem dX12_hasText_76 : decode cX12_hasText 76 = .ok (.iload_n 1, 1) := by decide +kernel
theorem dX12_hasText_77 : decode cX12_hasText 77 = .ok (.iaload, 1) := by decide +kernel
theorem dX12_hasText_78 : decode cX12_hasText 78 = .ok (.iload 6, 2) := by decide +kernel
theorem dX12_hasText_80 : decode cX12_hasText 80 = .ok (.iadd, 1) := by decide +kernel
theorem dX12_hasText_81 : decode cX12_hasText 81 = .ok (.invokevirtual 83, 3) := by decide +kernel
theorem dX12_hasText_84 : decode cX12_hasText 84 = .ok (.aload_n 0, 1) := by decide +kernel
theorem dX12_hasText_85 : decode cX12_hasText 85 = .ok (.getfield 7, 3) := by decide +kernel
theorem dX12_hasText_88 : decode cX12_hasText 88 = .ok (.iload 4, 2) := by decide +kernel
theorem dX12_hasText_90 : decode cX12_hasText 90 = .ok (.iconst 1, 1) := by decide +kernel
theorem dX12_hasText_91 : decode cX12_hasText 91 = .ok (.iadd, 1) := by decide +kernel
theorem dX12_hasText_92 : decode cX12_hasText 92 = .ok (.iload 6, 2) := by decide +kernel
theorem dX12_hasText_94 : decode cX12_hasText 94 = .ok (.iadd, 1) := by decide +kernel
theorem dX12_hasText_95 : decode cX12_hasText 95 = .ok (.iaload, 1) := by decide +kernel
theorem dX12_hasText_96 : decode cX12_hasText 96 = .ok (.if_icmp .ne 7, 3) := by decide +kernel
theorem dX12_hasText_99 : decode cX12_hasText 99 = .ok (.iconst 1, 1) := by decide +kernel
theorem dX12_hasText_100 : decode cX12_hasText 100 = .ok (.goto 4, 3) := by decide +kernel
theorem dX12_hasText_103 : decode cX12_hasText 103 = .ok (.iconst 0, 1) := by decide +kernel
theorem dX12_hasText_104 : decode cX12_hasText 104 = .ok (.istore 5, 2) := by decide +kernel
theorem dX12_hasText_106 : decode cX12_hasText 106 = .ok (.iinc 6 1, 3) := by decide +kernel
theorem dX12_hasText_109 : decode cX12_hasText 109 = .ok (.goto (-61), 3) := by decide +kernel
theorem dX12_hasText_112 : decode cX12_hasText 112 = .ok (.iload 5, 2) := by decide +kernel
theorem dX12_hasText_114 : decode cX12_hasText 114 = .ok (.ireturn, 1) := by decide +kernel
theorem dX12_ruleAt_0 : decode cX12_ruleAt 0 = .ok (.aload_n 0, 1) := by decide +kernel
theorem dX12_ruleAt_1 : decode cX12_ruleAt 1 = .ok (.getfield 7, 3) := by decide +kernel
theorem dX12_ruleAt_4 : decode cX12_ruleAt 4 = .ok (.sipush 701, 3) := by decide +kernel
theorem dX12_ruleAt_7 : decode cX12_ruleAt 7 = .ok (.bipush 23, 2) := by decide +kernel
theorem dX12_ruleAt_9 : decode cX12_ruleAt 9 = .ok (.iload_n 1, 1) := by decide +kernel
theorem dX12_ruleAt_10 : decode cX12_ruleAt 10 = .ok (.imul, 1) := by decide +kernel
theorem dX12_ruleAt_11 : decode cX12_ruleAt 11 = .ok (.iadd, 1) := by decide +kernel
theorem dX12_ruleAt_12 : decode cX12_ruleAt 12 = .ok (.iload_n 2, 1) := by decide +kernel
theorem dX12_ruleAt_13 : decode cX12_ruleAt 13 = .ok (.iadd, 1) := by decide +kernel
theorem dX12_ruleAt_14 : decode cX12_ruleAt 14 = .ok (.iaload, 1) := by decide +kernel
theorem dX12_ruleAt_15 : decode cX12_ruleAt 15 = .ok (.ireturn, 1) := by decide +kernel
theorem dX12_ruleFor_0 : decode cX12_ruleFor 0 = .ok (.bipush (-9), 2) := by decide +kernel
theorem dX12_ruleFor_2 : decode cX12_ruleFor 2 = .ok (.istore_n 3, 1) := by decide +kernel
theorem dX12_ruleFor_3 : decode cX12_ruleFor 3 = .ok (.iconst 0, 1) := by decide +kernel
theorem dX12_ruleFor_4 : decode cX12_ruleFor 4 = .ok (.istore 4, 2) := by decide +kernel
theorem dX12_ruleFor_6 : decode cX12_ruleFor 6 = .ok (.iload 4, 2) := by decide +kernel
theorem dX12_ruleFor_8 : decode cX12_ruleFor 8 = .ok (.bipush 12, 2) := by decide +kernel
theorem dX12_ruleFor_10 : decode cX12_ruleFor 10 = .ok (.if_icmp .ge 72, 3) := by decide +kernel
theorem dX12_ruleFor_13 : decode cX12_ruleFor 13 = .ok (.aload_n 0, 1) := by decide +kernel
theorem dX12_ruleFor_14 : decode cX12_ruleFor 14 = .ok (.iload 4, 2) := by decide +kernel
theorem dX12_ruleFor_16 : decode cX12_ruleFor 16 = .ok (.iconst 0, 1) := by decide +kernel
theorem dX12_ruleFor_17 : decode cX12_ruleFor 17 = .ok (.invokevirtual 120, 3) := by decide +kernel
theorem dX12_ruleFor_20 : decode cX12_ruleFor 20 = .ok (.iload_n 2, 1) := by decide +kernel
theorem dX12_ruleFor_21 : decode cX12_ruleFor 21 = .ok (.if_icmp .ne 18, 3) := by decide +kernel
theorem dX12_ruleFor_24 : decode cX12_ruleFor 24 = .ok (.aload_n 0, 1) := by decide +kernel
theorem dX12_ruleFor_25 : decode cX12_ruleFor 25 = .ok (.iload_n 1, 1) := by decide +kernel
theorem dX12_ruleFor_26 : decode cX12_ruleFor 26 = .ok (.iload 4, 2) := by decide +kernel
theorem dX12_ruleFor_28 : decode cX12_ruleFor 28 = .ok (.iconst 5, 1) := by decide +kernel
theorem dX12_ruleFor_29 : decode cX12_ruleFor 29 = .ok (.invokevirtual 123, 3) := by decide +kernel
theorem dX12_ruleFor_32 : decode cX12_ruleFor 32 = .ok (.ifCond .eq 7, 3) := by decide +kernel
theorem dX12_ruleFor_35 : decode cX12_ruleFor 35 = .ok (.iconst 1, 1) := by decide +kernel
theorem dX12_ruleFor_36 : decode cX12_ruleFor 36 = .ok (.goto 4, 3) := by decide +kernel
theorem dX12_ruleFor_39 : decode cX12_ruleFor 39 = .ok (.iconst 0, 1) := by decide +kernel
theorem dX12_ruleFor_40 : decode cX12_ruleFor 40 = .ok (.istore 5, 2) := by decide +kernel
theorem dX12_ruleFor_42 : decode cX12_ruleFor 42 = .ok (.iload 5, 2) := by decide +kernel
theorem dX12_ruleFor_44 : decode cX12_ruleFor 44 = .ok (.ifCond .eq 30, 3) := by decide +kernel
theorem dX12_ruleFor_47 : decode cX12_ruleFor 47 = .ok (.iload_n 3, 1) := by decide +kernel
theorem dX12_ruleFor_48 : decode cX12_ruleFor 48 = .ok (.bipush (-9), 2) := by decide +kernel
theorem dX12_ruleFor_50 : decode cX12_ruleFor 50 = .ok (.if_icmp .eq 19, 3) := by decide +kernel
theorem dX12_ruleFor_53 : decode cX12_ruleFor 53 = .ok (.aload_n 0, 1) := by decide +kernel
theorem dX12_ruleFor_54 : decode cX12_ruleFor 54 = .ok (.iload 4, 2) := by decide +kernel
theorem dX12_ruleFor_56 : decode cX12_ruleFor 56 = .ok (.iconst 1, 1) := by decide +kernel
theorem dX12_ruleFor_57 : decode cX12_ruleFor 57 = .ok (.invokevirtual 120, 3) := by decide +kernel
theorem dX12_ruleFor_60 : decode cX12_ruleFor 60 = .ok (.aload_n 0, 1) := by decide +kernel
theorem dX12_ruleFor_61 : decode cX12_ruleFor 61 = .ok (.iload_n 3, 1) := by decide +kernel
theorem dX12_ruleFor_62 : decode cX12_ruleFor 62 = .ok (.iconst 1, 1) := by decide +kernel
theorem dX12_ruleFor_63 : decode cX12_ruleFor 63 = .ok (.invokevirtual 120, 3) := by decide +kernel
theorem dX12_ruleFor_66 : decode cX12_ruleFor 66 = .ok (.if_icmp .le 8, 3) := by decide +kernel
theorem dX12_ruleFor_69 : decode cX12_ruleFor 69 = .ok (.iload 4, 2) := by decide +kernel
theorem dX12_ruleFor_71 : decode cX12_ruleFor 71 = .ok (.goto 4, 3) := by decide +kernel
theorem dX12_ruleFor_74 : decode cX12_ruleFor 74 = .ok (.iload_n 3, 1) := by decide +kernel
theorem dX12_ruleFor_75 : decode cX12_ruleFor 75 = .ok (.istore_n 3, 1) := by decide +kernel
theorem dX12_ruleFor_76 : decode cX12_ruleFor 76 = .ok (.iinc 4 1, 3) := by decide +kernel
theorem dX12_ruleFor_79 : decode cX12_ruleFor 79 = .ok (.goto (-73), 3) := by decide +kernel
theorem dX12_ruleFor_82 : decode cX12_ruleFor 82 = .ok (.iload_n 3, 1) := by decide +kernel
theorem dX12_ruleFor_83 : decode cX12_ruleFor 83 = .ok (.ireturn, 1) := by decide +kernel
theorem dX12_isClosingText_0 : decode cX12_isClosingText 0 = .ok (.iconst 0, 1) := by decide +kernel
theorem dX12_isClosingText_1 : decode cX12_isClosingText 1 = .ok (.istore_n 2, 1) := by decide +kernel
theorem dX12_isClosingText_2 : decode cX12_isClosingText 2 = .ok (.iconst 0, 1) := by decide +kernel
theorem dX12_isClosingText_3 : decode cX12_isClosingText 3 = .ok (.istore_n 3, 1) := by decide +kernel
theorem dX12_isClosingText_4 : decode cX12_isClosingText 4 = .ok (.iload_n 3, 1) := by decide +kernel
theorem dX12_isClosingText_5 : decode cX12_isClosingText 5 = .ok (.bipush 12, 2) := by decide +kernel
theorem dX12_isClosingText_7 : decode cX12_isClosingText 7 = .ok (.if_icmp .ge 40, 3) := by decide +kernel
theorem dX12_isClosingText_10 : decode cX12_isClosingText 10 = .ok (.iload_n 2, 1) := by decide +kernel
theorem dX12_isClosingText_11 : decode cX12_isClosingText 11 = .ok (.ifCond .ne 24, 3) := by decide +kernel
theorem dX12_isClosingText_14 : decode cX12_isClosingText 14 = .ok (.aload_n 0, 1) := by decide +kernel
theorem dX12_isClosingText_15 : decode cX12_isClosingText 15 = .ok (.iload_n 3, 1) := by decide +kernel
theorem dX12_isClosingText_16 : decode cX12_isClosingText 16 = .ok (.iconst 0, 1) := by decide +kernel
theorem dX12_isClosingText_17 : decode cX12_isClosingText 17 = .ok (.invokevirtual 120, 3) := by decide +kernel
theorem dX12_isClosingText_20 : decode cX12_isClosingText 20 = .ok (.iconst 1, 1) := by decide +kernel
theorem dX12_isClosingText_21 : decode cX12_isClosingText 21 = .ok (.if_icmp .ne 18, 3) := by decide +kernel
theorem dX12_isClosingText_24 : decode cX12_isClosingText 24 = .ok (.aload_n 0, 1) := by decide +kernel
theorem dX12_isClosingText_25 : decode cX12_isClosingText 25 = .ok (.iload_n 1, 1) := by decide +kernel
theorem dX12_isClosingText_26 : decode cX12_isClosingText 26 = .ok (.iload_n 3, 1) := by decide +kernel
theorem dX12_isClosingText_27 : decode cX12_isClosingText 27 = .ok (.bipush 14, 2) := by decide +kernel
theorem dX12_isClosingText_29 : decode cX12_isClosingText 29 = .ok (.invokevirtual 123, 3) := by decide +kernel
theorem dX12_isClosingText_32 : decode cX12_isClosingText 32 = .ok (.ifCond .eq 7, 3) := by decide +kernel
theorem dX12_isClosingText_35 : decode cX12_isClosingText 35 = .ok (.iconst 1, 1) := by decide +kernel
theorem dX12_isClosingText_36 : decode cX12_isClosingText 36 = .ok (.goto 4, 3) := by decide +kernel
theorem dX12_isClosingText_39 : decode cX12_isClosingText 39 = .ok (.iconst 0, 1) := by decide +kernel
theorem dX12_isClosingText_40 : decode cX12_isClosingText 40 = .ok (.istore_n 2, 1) := by decide +kernel
theorem dX12_isClosingText_41 : decode cX12_isClosingText 41 = .ok (.iinc 3 1, 3) := by decide +kernel
theorem dX12_isClosingText_44 : decode cX12_isClosingText 44 = .ok (.goto (-40), 3) := by decide +kernel
theorem dX12_isClosingText_47 : decode cX12_isClosingText 47 = .ok (.iload_n 2, 1) := by decide +kernel
theorem dX12_isClosingText_48 : decode cX12_isClosingText 48 = .ok (.ireturn, 1) := by decide +kernel
theorem dX12_shuts_0 : decode cX12_shuts 0 = .ok (.aload_n 0, 1) := by decide +kernel
theorem dX12_shuts_1 : decode cX12_shuts 1 = .ok (.getfield 126, 3) := by decide +kernel
theorem dX12_shuts_4 : decode cX12_shuts 4 = .ok (.iconst 1, 1) := by decide +kernel
theorem dX12_shuts_5 : decode cX12_shuts 5 = .ok (.isub, 1) := by decide +kernel
theorem dX12_shuts_6 : decode cX12_shuts 6 = .ok (.istore_n 2, 1) := by decide +kernel
theorem dX12_shuts_7 : decode cX12_shuts 7 = .ok (.iload_n 2, 1) := by decide +kernel
theorem dX12_shuts_8 : decode cX12_shuts 8 = .ok (.ifCond .lt 30, 3) := by decide +kernel
theorem dX12_shuts_11 : decode cX12_shuts 11 = .ok (.aload_n 0, 1) := by decide +kernel
theorem dX12_shuts_12 : decode cX12_shuts 12 = .ok (.iload_n 1, 1) := by decide +kernel
theorem dX12_shuts_13 : decode cX12_shuts 13 = .ok (.aload_n 0, 1) := by decide +kernel
theorem dX12_shuts_14 : decode cX12_shuts 14 = .ok (.getfield 32, 3) := by decide +kernel
theorem dX12_shuts_17 : decode cX12_shuts 17 = .ok (.aload_n 0, 1) := by decide +kernel
theorem dX12_shuts_18 : decode cX12_shuts 18 = .ok (.getfield 53, 3) := by decide +kernel
theorem dX12_shuts_21 : decode cX12_shuts 21 = .ok (.iload_n 2, 1) := by decide +kernel
theorem dX12_shuts_22 : decode cX12_shuts 22 = .ok (.iaload, 1) := by decide +kernel
theorem dX12_shuts_23 : decode cX12_shuts 23 = .ok (.iaload, 1) := by decide +kernel
theorem dX12_shuts_24 : decode cX12_shuts 24 = .ok (.bipush 14, 2) := by decide +kernel
theorem dX12_shuts_26 : decode cX12_shuts 26 = .ok (.invokevirtual 123, 3) := by decide +kernel
theorem dX12_shuts_29 : decode cX12_shuts 29 = .ok (.ifCond .ne 9, 3) := by decide +kernel
theorem dX12_shuts_32 : decode cX12_shuts 32 = .ok (.iinc 2 (-1), 3) := by decide +kernel
theorem dX12_shuts_35 : decode cX12_shuts 35 = .ok (.goto (-28), 3) := by decide +kernel
theorem dX12_shuts_38 : decode cX12_shuts 38 = .ok (.iload_n 2, 1) := by decide +kernel
theorem dX12_shuts_39 : decode cX12_shuts 39 = .ok (.ifCond .lt 7, 3) := by decide +kernel
theorem dX12_shuts_42 : decode cX12_shuts 42 = .ok (.iconst 1, 1) := by decide +kernel
theorem dX12_shuts_43 : decode cX12_shuts 43 = .ok (.goto 4, 3) := by decide +kernel
theorem dX12_shuts_46 : decode cX12_shuts 46 = .ok (.iconst 0, 1) := by decide +kernel
theorem dX12_shuts_47 : decode cX12_shuts 47 = .ok (.istore_n 3, 1) := by decide +kernel
theorem dX12_shuts_48 : decode cX12_shuts 48 = .ok (.iload_n 2, 1) := by decide +kernel
theorem dX12_shuts_49 : decode cX12_shuts 49 = .ok (.iconst 1, 1) := by decide +kernel
theorem dX12_shuts_50 : decode cX12_shuts 50 = .ok (.iadd, 1) := by decide +kernel
theorem dX12_shuts_51 : decode cX12_shuts 51 = .ok (.istore 4, 2) := by decide +kernel
theorem dX12_shuts_53 : decode cX12_shuts 53 = .ok (.iload 4, 2) := by decide +kernel
theorem dX12_shuts_55 : decode cX12_shuts 55 = .ok (.aload_n 0, 1) := by decide +kernel
theorem dX12_shuts_56 : decode cX12_shuts 56 = .ok (.getfield 126, 3) := by decide +kernel
theorem dX12_shuts_59 : decode cX12_shuts 59 = .ok (.if_icmp .ge 55, 3) := by decide +kernel
theorem dX12_shuts_62 : decode cX12_shuts 62 = .ok (.iload_n 3, 1) := by decide +kernel
theorem dX12_shuts_63 : decode cX12_shuts 63 = .ok (.ifCond .eq 51, 3) := by decide +kernel
theorem dX12_shuts_66 : decode cX12_shuts 66 = .ok (.aload_n 0, 1) := by decide +kernel
theorem dX12_shuts_67 : decode cX12_shuts 67 = .ok (.aload_n 0, 1) := by decide +kernel
theorem dX12_shuts_68 : decode cX12_shuts 68 = .ok (.getfield 32, 3) := by decide +kernel
theorem dX12_shuts_71 : decode cX12_shuts 71 = .ok (.aload_n 0, 1) := by decide +kernel
theorem dX12_shuts_72 : decode cX12_shuts 72 = .ok (.getfield 53, 3) := by decide +kernel
theorem dX12_shuts_75 : decode cX12_shuts 75 = .ok (.iload 4, 2) := by decide +kernel
theorem dX12_shuts_77 : decode cX12_shuts 77 = .ok (.iaload, 1) := by decide +kernel
theorem dX12_shuts_78 : decode cX12_shuts 78 = .ok (.iaload, 1) := by decide +kernel
theorem dX12_shuts_79 : decode cX12_shuts 79 = .ok (.iconst 1, 1) := by decide +kernel
theorem dX12_shuts_80 : decode cX12_shuts 80 = .ok (.invokevirtual 120, 3) := by decide +kernel
theorem dX12_shuts_83 : decode cX12_shuts 83 = .ok (.aload_n 0, 1) := by decide +kernel
theorem dX12_shuts_84 : decode cX12_shuts 84 = .ok (.aload_n 0, 1) := by decide +kernel
theorem dX12_shuts_85 : decode cX12_shuts 85 = .ok (.getfield 32, 3) := by decide +kernel
theorem dX12_shuts_88 : decode cX12_shuts 88 = .ok (.aload_n 0, 1) := by decide +kernel
theorem dX12_shuts_89 : decode cX12_shuts 89 = .ok (.getfield 53, 3) := by decide +kernel
theorem dX12_shuts_92 : decode cX12_shuts 92 = .ok (.iload_n 2, 1) := by decide +kernel
theorem dX12_shuts_93 : decode cX12_shuts 93 = .ok (.iaload, 1) := by decide +kernel
theorem dX12_shuts_94 : decode cX12_shuts 94 = .ok (.iaload, 1) := by decide +kernel
theorem dX12_shuts_95 : decode cX12_shuts 95 = .ok (.iconst 1, 1) := by decide +kernel
theorem dX12_shuts_96 : decode cX12_shuts 96 = .ok (.invokevirtual 120, 3) := by decide +kernel
theorem dX12_shuts_99 : decode cX12_shuts 99 = .ok (.if_icmp .ge 7, 3) := by decide +kernel
theorem dX12_shuts_102 : decode cX12_shuts 102 = .ok (.iconst 1, 1) := by decide +kernel
theorem dX12_shuts_103 : decode cX12_shuts 103 = .ok (.goto 4, 3) := by decide +kernel
theorem dX12_shuts_106 : decode cX12_shuts 106 = .ok (.iconst 0, 1) := by decide +kernel
theorem dX12_shuts_107 : decode cX12_shuts 107 = .ok (.istore_n 3, 1) := by decide +kernel
theorem dX12_shuts_108 : decode cX12_shuts 108 = .ok (.iinc 4 1, 3) := by decide +kernel
theorem dX12_shuts_111 : decode cX12_shuts 111 = .ok (.goto (-58), 3) := by decide +kernel
theorem dX12_shuts_114 : decode cX12_shuts 114 = .ok (.iload_n 3, 1) := by decide +kernel
theorem dX12_shuts_115 : decode cX12_shuts 115 = .ok (.ifCond .eq 52, 3) := by decide +kernel
theorem dX12_shuts_118 : decode cX12_shuts 118 = .ok (.aload_n 0, 1) := by decide +kernel
theorem dX12_shuts_119 : decode cX12_shuts 119 = .ok (.getfield 35, 3) := by decide +kernel
theorem dX12_shuts_122 : decode cX12_shuts 122 = .ok (.iload_n 1, 1) := by decide +kernel
theorem dX12_shuts_123 : decode cX12_shuts 123 = .ok (.aload_n 0, 1) := by decide +kernel
theorem dX12_shuts_124 : decode cX12_shuts 124 = .ok (.getfield 53, 3) := by decide +kernel
theorem dX12_shuts_127 : decode cX12_shuts 127 = .ok (.iload_n 2, 1) := by decide +kernel
theorem dX12_shuts_128 : decode cX12_shuts 128 = .ok (.iaload, 1) := by decide +kernel
theorem dX12_shuts_129 : decode cX12_shuts 129 = .ok (.iastore, 1) := by decide +kernel
theorem dX12_shuts_130 : decode cX12_shuts 130 = .ok (.aload_n 0, 1) := by decide +kernel
theorem dX12_shuts_131 : decode cX12_shuts 131 = .ok (.getfield 38, 3) := by decide +kernel
theorem dX12_shuts_134 : decode cX12_shuts 134 = .ok (.aload_n 0, 1) := by decide +kernel
theorem dX12_shuts_135 : decode cX12_shuts 135 = .ok (.getfield 53, 3) := by decide +kernel
theorem dX12_shuts_138 : decode cX12_shuts 138 = .ok (.iload_n 2, 1) := by decide +kernel
theorem dX12_shuts_139 : decode cX12_shuts 139 = .ok (.iaload, 1) := by decide +kernel
theorem dX12_shuts_140 : decode cX12_shuts 140 = .ok (.iload_n 1, 1) := by decide +kernel
theorem dX12_shuts_141 : decode cX12_shuts 141 = .ok (.iastore, 1) := by decide +kernel
theorem dX12_shuts_142 : decode cX12_shuts 142 = .ok (.aload_n 0, 1) := by decide +kernel
theorem dX12_shuts_143 : decode cX12_shuts 143 = .ok (.dup, 1) := by decide +kernel
theorem dX12_shuts_144 : decode cX12_shuts 144 = .ok (.getfield 129, 3) := by decide +kernel
theorem dX12_shuts_147 : decode cX12_shuts 147 = .ok (.aload_n 0, 1) := by decide +kernel
theorem dX12_shuts_148 : decode cX12_shuts 148 = .ok (.getfield 126, 3) := by decide +kernel
theorem dX12_shuts_151 : decode cX12_shuts 151 = .ok (.iconst 1, 1) := by decide +kernel
theorem dX12_shuts_152 : decode cX12_shuts 152 = .ok (.isub, 1) := by decide +kernel
theorem dX12_shuts_153 : decode cX12_shuts 153 = .ok (.iload_n 2, 1) := by decide +kernel
theorem dX12_shuts_154 : decode cX12_shuts 154 = .ok (.isub, 1) := by decide +kernel
theorem dX12_shuts_155 : decode cX12_shuts 155 = .ok (.iadd, 1) := by decide +kernel
theorem dX12_shuts_156 : decode cX12_shuts 156 = .ok (.putfield 129, 3) := by decide +kernel
theorem dX12_shuts_159 : decode cX12_shuts 159 = .ok (.aload_n 0, 1) := by decide +kernel
theorem dX12_shuts_160 : decode cX12_shuts 160 = .ok (.iload_n 2, 1) := by decide +kernel
theorem dX12_shuts_161 : decode cX12_shuts 161 = .ok (.putfield 126, 3) := by decide +kernel
theorem dX12_shuts_164 : decode cX12_shuts 164 = .ok (.goto 21, 3) := by decide +kernel
theorem dX12_shuts_167 : decode cX12_shuts 167 = .ok (.aload_n 0, 1) := by decide +kernel
theorem dX12_shuts_168 : decode cX12_shuts 168 = .ok (.iload_n 1, 1) := by decide +kernel
theorem dX12_shuts_169 : decode cX12_shuts 169 = .ok (.invokevirtual 132, 3) := by decide +kernel
theorem dX12_shuts_172 : decode cX12_shuts 172 = .ok (.ifCond .eq 13, 3) := by decide +kernel
theorem dX12_shuts_175 : decode cX12_shuts 175 = .ok (.aload_n 0, 1) := by decide +kernel
theorem dX12_shuts_176 : decode cX12_shuts 176 = .ok (.dup, 1) := by decide +kernel
theorem dX12_shuts_177 : decode cX12_shuts 177 = .ok (.getfield 135, 3) := by decide +kernel
theorem dX12_shuts_180 : decode cX12_shuts 180 = .ok (.iconst 1, 1) := by decide +kernel
theorem dX12_shuts_181 : decode cX12_shuts 181 = .ok (.iadd, 1) := by decide +kernel
theorem dX12_shuts_182 : decode cX12_shuts 182 = .ok (.putfield 135, 3) := by decide +kernel
theorem dX12_shuts_185 : decode cX12_shuts 185 = .ok (.return_, 1) := by decide +kernel
theorem dX12_notes_0 : decode cX12_notes 0 = .ok (.aload_n 0, 1) := by decide +kernel
theorem dX12_notes_1 : decode cX12_notes 1 = .ok (.getfield 47, 3) := by decide +kernel
theorem dX12_notes_4 : decode cX12_notes 4 = .ok (.iload_n 1, 1) := by decide +kernel
theorem dX12_notes_5 : decode cX12_notes 5 = .ok (.aload_n 0, 1) := by decide +kernel
theorem dX12_notes_6 : decode cX12_notes 6 = .ok (.getfield 126, 3) := by decide +kernel
theorem dX12_notes_9 : decode cX12_notes 9 = .ok (.iastore, 1) := by decide +kernel
theorem dX12_notes_10 : decode cX12_notes 10 = .ok (.iconst 0, 1) := by decide +kernel
theorem dX12_notes_11 : decode cX12_notes 11 = .ok (.istore_n 2, 1) := by decide +kernel
theorem dX12_notes_12 : decode cX12_notes 12 = .ok (.iload_n 2, 1) := by decide +kernel
theorem dX12_notes_13 : decode cX12_notes 13 = .ok (.aload_n 0, 1) := by decide +kernel
theorem dX12_notes_14 : decode cX12_notes 14 = .ok (.getfield 126, 3) := by decide +kernel
theorem dX12_notes_17 : decode cX12_notes 17 = .ok (.if_icmp .ge 26, 3) := by decide +kernel
theorem dX12_notes_20 : decode cX12_notes 20 = .ok (.aload_n 0, 1) := by decide +kernel
theorem dX12_notes_21 : decode cX12_notes 21 = .ok (.getfield 50, 3) := by decide +kernel
theorem dX12_notes_24 : decode cX12_notes 24 = .ok (.bipush 12, 2) := by decide +kernel
theorem dX12_notes_26 : decode cX12_notes 26 = .ok (.iload_n 1, 1) := by decide +kernel
theorem dX12_notes_27 : decode cX12_notes 27 = .ok (.imul, 1) := by decide +kernel
theorem dX12_notes_28 : decode cX12_notes 28 = .ok (.iload_n 2, 1) := by decide +kernel
theorem dX12_notes_29 : decode cX12_notes 29 = .ok (.iadd, 1) := by decide +kernel
theorem dX12_notes_30 : decode cX12_notes 30 = .ok (.aload_n 0, 1) := by decide +kernel
theorem dX12_notes_31 : decode cX12_notes 31 = .ok (.getfield 53, 3) := by decide +kernel
theorem dX12_notes_34 : decode cX12_notes 34 = .ok (.iload_n 2, 1) := by decide +kernel
theorem dX12_notes_35 : decode cX12_notes 35 = .ok (.iaload, 1) := by decide +kernel
theorem dX12_notes_36 : decode cX12_notes 36 = .ok (.iastore, 1) := by decide +kernel
theorem dX12_notes_37 : decode cX12_notes 37 = .ok (.iinc 2 1, 3) := by decide +kernel
theorem dX12_notes_40 : decode cX12_notes 40 = .ok (.goto (-28), 3) := by decide +kernel
theorem dX12_notes_43 : decode cX12_notes 43 = .ok (.return_, 1) := by decide +kernel
theorem dX12_looks_0 : decode cX12_looks 0 = .ok (.aload_n 0, 1) := by decide +kernel
theorem dX12_looks_1 : decode cX12_looks 1 = .ok (.invokevirtual 138, 3) := by decide +kernel
theorem dX12_looks_4 : decode cX12_looks 4 = .ok (.aload_n 0, 1) := by decide +kernel
theorem dX12_looks_5 : decode cX12_looks 5 = .ok (.iconst 0, 1) := by decide +kernel
theorem dX12_looks_6 : decode cX12_looks 6 = .ok (.putfield 126, 3) := by decide +kernel
theorem dX12_looks_9 : decode cX12_looks 9 = .ok (.aload_n 0, 1) := by decide +kernel
theorem dX12_looks_10 : decode cX12_looks 10 = .ok (.iconst 0, 1) := by decide +kernel
theorem dX12_looks_11 : decode cX12_looks 11 = .ok (.putfield 135, 3) := by decide +kernel
theorem dX12_looks_14 : decode cX12_looks 14 = .ok (.aload_n 0, 1) := by decide +kernel
theorem dX12_looks_15 : decode cX12_looks 15 = .ok (.iconst 0, 1) := by decide +kernel
theorem dX12_looks_16 : decode cX12_looks 16 = .ok (.putfield 129, 3) := by decide +kernel
theorem dX12_looks_19 : decode cX12_looks 19 = .ok (.iconst 0, 1) := by decide +kernel
theorem dX12_looks_20 : decode cX12_looks 20 = .ok (.istore_n 1, 1) := by decide +kernel
theorem dX12_looks_21 : decode cX12_looks 21 = .ok (.iload_n 1, 1) := by decide +kernel
theorem dX12_looks_22 : decode cX12_looks 22 = .ok (.aload_n 0, 1) := by decide +kernel
theorem dX12_looks_23 : decode cX12_looks 23 = .ok (.getfield 7, 3) := by decide +kernel
theorem dX12_looks_26 : decode cX12_looks 26 = .ok (.iconst 0, 1) := by decide +kernel
theorem dX12_looks_27 : decode cX12_looks 27 = .ok (.iaload, 1) := by decide +kernel
theorem dX12_looks_28 : decode cX12_looks 28 = .ok (.if_icmp .ge 117, 3) := by decide +kernel
theorem dX12_looks_31 : decode cX12_looks 31 = .ok (.aload_n 0, 1) := by decide +kernel
theorem dX12_looks_32 : decode cX12_looks 32 = .ok (.iload_n 1, 1) := by decide +kernel
theorem dX12_looks_33 : decode cX12_looks 33 = .ok (.invokevirtual 141, 3) := by decide +kernel
theorem dX12_looks_36 : decode cX12_looks 36 = .ok (.aload_n 0, 1) := by decide +kernel
theorem dX12_looks_37 : decode cX12_looks 37 = .ok (.getfield 41, 3) := by decide +kernel
theorem dX12_looks_40 : decode cX12_looks 40 = .ok (.iload_n 1, 1) := by decide +kernel
theorem dX12_looks_41 : decode cX12_looks 41 = .ok (.iaload, 1) := by decide +kernel
theorem dX12_looks_42 : decode cX12_looks 42 = .ok (.istore_n 2, 1) := by decide +kernel
theorem dX12_looks_43 : decode cX12_looks 43 = .ok (.iload_n 2, 1) := by decide +kernel
theorem dX12_looks_44 : decode cX12_looks 44 = .ok (.aload_n 0, 1) := by decide +kernel
theorem dX12_looks_45 : decode cX12_looks 45 = .ok (.getfield 41, 3) := by decide +kernel
theorem dX12_looks_48 : decode cX12_looks 48 = .ok (.iload_n 1, 1) := by decide +kernel
theorem dX12_looks_49 : decode cX12_looks 49 = .ok (.iconst 1, 1) := by decide +kernel
theorem dX12_looks_50 : decode cX12_looks 50 = .ok (.iadd, 1) := by decide +kernel
theorem dX12_looks_51 : decode cX12_looks 51 = .ok (.iaload, 1) := by decide +kernel
theorem dX12_looks_52 : decode cX12_looks 52 = .ok (.if_icmp .ge 87, 3) := by decide +kernel
theorem dX12_looks_55 : decode cX12_looks 55 = .ok (.aload_n 0, 1) := by decide +kernel
theorem dX12_looks_56 : decode cX12_looks 56 = .ok (.getfield 32, 3) := by decide +kernel
theorem dX12_looks_59 : decode cX12_looks 59 = .ok (.iload_n 2, 1) := by decide +kernel
theorem dX12_looks_60 : decode cX12_looks 60 = .ok (.bipush (-9), 2) := by decide +kernel
theorem dX12_looks_62 : decode cX12_looks 62 = .ok (.iastore, 1) := by decide +kernel
theorem dX12_looks_63 : decode cX12_looks 63 = .ok (.aload_n 0, 1) := by decide +kernel
theorem dX12_looks_64 : decode cX12_looks 64 = .ok (.getfield 35, 3) := by decide +kernel
theorem dX12_looks_67 : decode cX12_looks 67 = .ok (.iload_n 2, 1) := by decide +kernel
theorem dX12_looks_68 : decode cX12_looks 68 = .ok (.bipush (-9), 2) := by decide +kernel
theorem dX12_looks_70 : decode cX12_looks 70 = .ok (.iastore, 1) := by decide +kernel
theorem dX12_looks_71 : decode cX12_looks 71 = .ok (.aload_n 0, 1) := by decide +kernel
theorem dX12_looks_72 : decode cX12_looks 72 = .ok (.getfield 38, 3) := by decide +kernel
theorem dX12_looks_75 : decode cX12_looks 75 = .ok (.iload_n 2, 1) := by decide +kernel
theorem dX12_looks_76 : decode cX12_looks 76 = .ok (.bipush (-9), 2) := by decide +kernel
theorem dX12_looks_78 : decode cX12_looks 78 = .ok (.iastore, 1) := by decide +kernel
theorem dX12_looks_79 : decode cX12_looks 79 = .ok (.aload_n 0, 1) := by decide +kernel
theorem dX12_looks_80 : decode cX12_looks 80 = .ok (.iload_n 2, 1) := by decide +kernel
theorem dX12_looks_81 : decode cX12_looks 81 = .ok (.invokevirtual 145, 3) := by decide +kernel
theorem dX12_looks_84 : decode cX12_looks 84 = .ok (.aload_n 0, 1) := by decide +kernel
theorem dX12_looks_85 : decode cX12_looks 85 = .ok (.iload_n 2, 1) := by decide +kernel
theorem dX12_looks_86 : decode cX12_looks 86 = .ok (.iconst 1, 1) := by decide +kernel
theorem dX12_looks_87 : decode cX12_looks 87 = .ok (.invokevirtual 148, 3) := by decide +kernel
theorem dX12_looks_90 : decode cX12_looks 90 = .ok (.istore_n 3, 1) := by decide +kernel
theorem dX12_looks_91 : decode cX12_looks 91 = .ok (.iload_n 3, 1) := by decide +kernel
theorem dX12_looks_92 : decode cX12_looks 92 = .ok (.bipush (-9), 2) := by decide +kernel
theorem dX12_looks_94 : decode cX12_looks 94 = .ok (.if_icmp .eq 39, 3) := by decide +kernel
theorem dX12_looks_97 : decode cX12_looks 97 = .ok (.aload_n 0, 1) := by decide +kernel
theorem dX12_looks_98 : decode cX12_looks 98 = .ok (.getfield 126, 3) := by decide +kernel
theorem dX12_looks_101 : decode cX12_looks 101 = .ok (.bipush 12, 2) := by decide +kernel
theorem dX12_looks_103 : decode cX12_looks 103 = .ok (.if_icmp .ge 30, 3) := by decide +kernel
theorem dX12_looks_106 : decode cX12_looks 106 = .ok (.aload_n 0, 1) := by decide +kernel
theorem dX12_looks_107 : decode cX12_looks 107 = .ok (.getfield 32, 3) := by decide +kernel
theorem dX12_looks_110 : decode cX12_looks 110 = .ok (.iload_n 2, 1) := by decide +kernel
theorem dX12_looks_111 : decode cX12_looks 111 = .ok (.iload_n 3, 1) := by decide +kernel
theorem dX12_looks_112 : decode cX12_looks 112 = .ok (.iastore, 1) := by decide +kernel
theorem dX12_looks_113 : decode cX12_looks 113 = .ok (.aload_n 0, 1) := by decide +kernel
theorem dX12_looks_114 : decode cX12_looks 114 = .ok (.getfield 53, 3) := by decide +kernel
theorem dX12_looks_117 : decode cX12_looks 117 = .ok (.aload_n 0, 1) := by decide +kernel
theorem dX12_looks_118 : decode cX12_looks 118 = .ok (.getfield 126, 3) := by decide +kernel
theorem dX12_looks_121 : decode cX12_looks 121 = .ok (.iload_n 2, 1) := by decide +kernel
theorem dX12_looks_122 : decode cX12_looks 122 = .ok (.iastore, 1) := by decide +kernel
theorem dX12_looks_123 : decode cX12_looks 123 = .ok (.aload_n 0, 1) := by decide +kernel
theorem dX12_looks_124 : decode cX12_looks 124 = .ok (.dup, 1) := by decide +kernel
theorem dX12_looks_125 : decode cX12_looks 125 = .ok (.getfield 126, 3) := by decide +kernel
theorem dX12_looks_128 : decode cX12_looks 128 = .ok (.iconst 1, 1) := by decide +kernel
theorem dX12_looks_129 : decode cX12_looks 129 = .ok (.iadd, 1) := by decide +kernel
theorem dX12_looks_130 : decode cX12_looks 130 = .ok (.putfield 126, 3) := by decide +kernel
theorem dX12_looks_133 : decode cX12_looks 133 = .ok (.iinc 2 1, 3) := by decide +kernel
theorem dX12_looks_136 : decode cX12_looks 136 = .ok (.goto (-93), 3) := by decide +kernel
theorem dX12_looks_139 : decode cX12_looks 139 = .ok (.iinc 1 1, 3) := by decide +kernel
theorem dX12_looks_142 : decode cX12_looks 142 = .ok (.goto (-121), 3) := by decide +kernel
theorem dX12_looks_145 : decode cX12_looks 145 = .ok (.aload_n 0, 1) := by decide +kernel
theorem dX12_looks_146 : decode cX12_looks 146 = .ok (.aload_n 0, 1) := by decide +kernel
theorem dX12_looks_147 : decode cX12_looks 147 = .ok (.getfield 7, 3) := by decide +kernel
theorem dX12_looks_150 : decode cX12_looks 150 = .ok (.iconst 0, 1) := by decide +kernel
theorem dX12_looks_151 : decode cX12_looks 151 = .ok (.iaload, 1) := by decide +kernel
theorem dX12_looks_152 : decode cX12_looks 152 = .ok (.invokevirtual 141, 3) := by decide +kernel
theorem dX12_looks_155 : decode cX12_looks 155 = .ok (.return_, 1) := by decide +kernel
theorem dX12_uses_0 : decode cX12_uses 0 = .ok (.aload_n 0, 1) := by decide +kernel
theorem dX12_uses_1 : decode cX12_uses 1 = .ok (.invokevirtual 151, 3) := by decide +kernel
theorem dX12_uses_4 : decode cX12_uses 4 = .ok (.iconst 0, 1) := by decide +kernel
theorem dX12_uses_5 : decode cX12_uses 5 = .ok (.istore_n 3, 1) := by decide +kernel
theorem dX12_uses_6 : decode cX12_uses 6 = .ok (.iload_n 3, 1) := by decide +kernel
theorem dX12_uses_7 : decode cX12_uses 7 = .ok (.aload_n 0, 1) := by decide +kernel
theorem dX12_uses_8 : decode cX12_uses 8 = .ok (.getfield 7, 3) := by decide +kernel
theorem dX12_uses_11 : decode cX12_uses 11 = .ok (.iconst 0, 1) := by decide +kernel
theorem dX12_uses_12 : decode cX12_uses 12 = .ok (.iaload, 1) := by decide +kernel
theorem dX12_uses_13 : decode cX12_uses 13 = .ok (.if_icmp .ge 23, 3) := by decide +kernel
theorem dX12_uses_16 : decode cX12_uses 16 = .ok (.aload_n 0, 1) := by decide +kernel
theorem dX12_uses_17 : decode cX12_uses 17 = .ok (.getfield 56, 3) := by decide +kernel
theorem dX12_uses_20 : decode cX12_uses 20 = .ok (.iload_n 3, 1) := by decide +kernel
theorem dX12_uses_21 : decode cX12_uses 21 = .ok (.aload_n 0, 1) := by decide +kernel
theorem dX12_uses_22 : decode cX12_uses 22 = .ok (.getfield 7, 3) := by decide +kernel
theorem dX12_uses_25 : decode cX12_uses 25 = .ok (.iconst 1, 1) := by decide +kernel
theorem dX12_uses_26 : decode cX12_uses 26 = .ok (.iload_n 3, 1) := by decide +kernel
theorem dX12_uses_27 : decode cX12_uses 27 = .ok (.iadd, 1) := by decide +kernel
theorem dX12_uses_28 : decode cX12_uses 28 = .ok (.iaload, 1) := by decide +kernel
theorem dX12_uses_29 : decode cX12_uses 29 = .ok (.iastore, 1) := by decide +kernel
theorem dX12_uses_30 : decode cX12_uses 30 = .ok (.iinc 3 1, 3) := by decide +kernel
theorem dX12_uses_33 : decode cX12_uses 33 = .ok (.goto (-27), 3) := by decide +kernel
theorem dX12_uses_36 : decode cX12_uses 36 = .ok (.aload_n 0, 1) := by decide +kernel
theorem dX12_uses_37 : decode cX12_uses 37 = .ok (.iload_n 1, 1) := by decide +kernel
theorem dX12_uses_38 : decode cX12_uses 38 = .ok (.putfield 154, 3) := by decide +kernel
theorem dX12_uses_41 : decode cX12_uses 41 = .ok (.aload_n 0, 1) := by decide +kernel
theorem dX12_uses_42 : decode cX12_uses 42 = .ok (.iload_n 2, 1) := by decide +kernel
theorem dX12_uses_43 : decode cX12_uses 43 = .ok (.putfield 157, 3) := by decide +kernel
theorem dX12_uses_46 : decode cX12_uses 46 = .ok (.return_, 1) := by decide +kernel
theorem dX12_columnOf_0 : decode cX12_columnOf 0 = .ok (.aload_n 0, 1) := by decide +kernel
theorem dX12_columnOf_1 : decode cX12_columnOf 1 = .ok (.getfield 56, 3) := by decide +kernel
theorem dX12_columnOf_4 : decode cX12_columnOf 4 = .ok (.aload_n 0, 1) := by decide +kernel
theorem dX12_columnOf_5 : decode cX12_columnOf 5 = .ok (.getfield 20, 3) := by decide +kernel
theorem dX12_columnOf_8 : decode cX12_columnOf 8 = .ok (.iload_n 1, 1) := by decide +kernel
theorem dX12_columnOf_9 : decode cX12_columnOf 9 = .ok (.iaload, 1) := by decide +kernel
theorem dX12_columnOf_10 : decode cX12_columnOf 10 = .ok (.iaload, 1) := by decide +kernel
theorem dX12_columnOf_11 : decode cX12_columnOf 11 = .ok (.aload_n 0, 1) := by decide +kernel
theorem dX12_columnOf_12 : decode cX12_columnOf 12 = .ok (.getfield 23, 3) := by decide +kernel
theorem dX12_columnOf_15 : decode cX12_columnOf 15 = .ok (.iload_n 1, 1) := by decide +kernel
theorem dX12_columnOf_16 : decode cX12_columnOf 16 = .ok (.iaload, 1) := by decide +kernel
theorem dX12_columnOf_17 : decode cX12_columnOf 17 = .ok (.iadd, 1) := by decide +kernel
theorem dX12_columnOf_18 : decode cX12_columnOf 18 = .ok (.ireturn, 1) := by decide +kernel
theorem dX12_isAligned_0 : decode cX12_isAligned 0 = .ok (.aload_n 0, 1) := by decide +kernel
theorem dX12_isAligned_1 : decode cX12_isAligned 1 = .ok (.aload_n 0, 1) := by decide +kernel
theorem dX12_isAligned_2 : decode cX12_isAligned 2 = .ok (.getfield 32, 3) := by decide +kernel
theorem dX12_isAligned_5 : decode cX12_isAligned 5 = .ok (.iload_n 1, 1) := by decide +kernel
theorem dX12_isAligned_6 : decode cX12_isAligned 6 = .ok (.iaload, 1) := by decide +kernel
theorem dX12_isAligned_7 : decode cX12_isAligned 7 = .ok (.iconst 3, 1) := by decide +kernel
theorem dX12_isAligned_8 : decode cX12_isAligned 8 = .ok (.invokevirtual 120, 3) := by decide +kernel
theorem dX12_isAligned_11 : decode cX12_isAligned 11 = .ok (.iconst 1, 1) := by decide +kernel
theorem dX12_isAligned_12 : decode cX12_isAligned 12 = .ok (.if_icmp .ne 26, 3) := by decide +kernel
theorem dX12_isAligned_15 : decode cX12_isAligned 15 = .ok (.iload_n 1, 1) := by decide +kernel
theorem dX12_isAligned_16 : decode cX12_isAligned 16 = .ok (.iconst 1, 1) := by decide +kernel
theorem dX12_isAligned_17 : decode cX12_isAligned 17 = .ok (.iadd, 1) := by decide +kernel
theorem dX12_isAligned_18 : decode cX12_isAligned 18 = .ok (.aload_n 0, 1) := by decide +kernel
theorem dX12_isAligned_19 : decode cX12_isAligned 19 = .ok (.getfield 41, 3) := by decide +kernel
theorem dX12_isAligned_22 : decode cX12_isAligned 22 = .ok (.aload_n 0, 1) := by decide +kernel
theorem dX12_isAligned_23 : decode cX12_isAligned 23 = .ok (.getfield 20, 3) := by decide +kernel
theorem dX12_isAligned_26 : decode cX12_isAligned 26 = .ok (.iload_n 1, 1) := by decide +kernel
theorem dX12_isAligned_27 : decode cX12_isAligned 27 = .ok (.iaload, 1) := by decide +kernel
theorem dX12_isAligned_28 : decode cX12_isAligned 28 = .ok (.iconst 1, 1) := by decide +kernel
theorem dX12_isAligned_29 : decode cX12_isAligned 29 = .ok (.iadd, 1) := by decide +kernel
theorem dX12_isAligned_30 : decode cX12_isAligned 30 = .ok (.iaload, 1) := by decide +kernel
theorem dX12_isAligned_31 : decode cX12_isAligned 31 = .ok (.if_icmp .ge 7, 3) := by decide +kernel
theorem dX12_isAligned_34 : decode cX12_isAligned 34 = .ok (.iconst 1, 1) := by decide +kernel
theorem dX12_isAligned_35 : decode cX12_isAligned 35 = .ok (.goto 4, 3) := by decide +kernel
theorem dX12_isAligned_38 : decode cX12_isAligned 38 = .ok (.iconst 0, 1) := by decide +kernel
theorem dX12_isAligned_39 : decode cX12_isAligned 39 = .ok (.ireturn, 1) := by decide +kernel
theorem dX12_columnIn_0 : decode cX12_columnIn 0 = .ok (.aload_n 0, 1) := by decide +kernel
theorem dX12_columnIn_1 : decode cX12_columnIn 1 = .ok (.iload_n 1, 1) := by decide +kernel
theorem dX12_columnIn_2 : decode cX12_columnIn 2 = .ok (.invokevirtual 160, 3) := by decide +kernel
theorem dX12_columnIn_5 : decode cX12_columnIn 5 = .ok (.ifCond .eq 13, 3) := by decide +kernel
theorem dX12_columnIn_8 : decode cX12_columnIn 8 = .ok (.aload_n 0, 1) := by decide +kernel
theorem dX12_columnIn_9 : decode cX12_columnIn 9 = .ok (.iload_n 1, 1) := by decide +kernel
theorem dX12_columnIn_10 : decode cX12_columnIn 10 = .ok (.iconst 1, 1) := by decide +kernel
theorem dX12_columnIn_11 : decode cX12_columnIn 11 = .ok (.iadd, 1) := by decide +kernel
theorem dX12_columnIn_12 : decode cX12_columnIn 12 = .ok (.invokevirtual 163, 3) := by decide +kernel
theorem dX12_columnIn_15 : decode cX12_columnIn 15 = .ok (.goto 36, 3) := by decide +kernel
theorem dX12_columnIn_18 : decode cX12_columnIn 18 = .ok (.bipush 40, 2) := by decide +kernel
theorem dX12_columnIn_20 : decode cX12_columnIn 20 = .ok (.aload_n 0, 1) := by decide +kernel
theorem dX12_columnIn_21 : decode cX12_columnIn 21 = .ok (.getfield 56, 3) := by decide +kernel
theorem dX12_columnIn_24 : decode cX12_columnIn 24 = .ok (.aload_n 0, 1) := by decide +kernel
theorem dX12_columnIn_25 : decode cX12_columnIn 25 = .ok (.getfield 20, 3) := by decide +kernel
theorem dX12_columnIn_28 : decode cX12_columnIn 28 = .ok (.iload_n 1, 1) := by decide +kernel
theorem dX12_columnIn_29 : decode cX12_columnIn 29 = .ok (.iaload, 1) := by decide +kernel
theorem dX12_columnIn_30 : decode cX12_columnIn 30 = .ok (.iaload, 1) := by decide +kernel
theorem dX12_columnIn_31 : decode cX12_columnIn 31 = .ok (.aload_n 0, 1) := by decide +kernel
theorem dX12_columnIn_32 : decode cX12_columnIn 32 = .ok (.aload_n 0, 1) := by decide +kernel
theorem dX12_columnIn_33 : decode cX12_columnIn 33 = .ok (.getfield 32, 3) := by decide +kernel
theorem dX12_columnIn_36 : decode cX12_columnIn 36 = .ok (.iload_n 1, 1) := by decide +kernel
theorem dX12_columnIn_37 : decode cX12_columnIn 37 = .ok (.iaload, 1) := by decide +kernel
theorem dX12_columnIn_38 : decode cX12_columnIn 38 = .ok (.iconst 2, 1) := by decide +kernel
theorem dX12_columnIn_39 : decode cX12_columnIn 39 = .ok (.invokevirtual 120, 3) := by decide +kernel
theorem dX12_columnIn_42 : decode cX12_columnIn 42 = .ok (.aload_n 0, 1) := by decide +kernel
theorem dX12_columnIn_43 : decode cX12_columnIn 43 = .ok (.getfield 154, 3) := by decide +kernel
theorem dX12_columnIn_46 : decode cX12_columnIn 46 = .ok (.imul, 1) := by decide +kernel
theorem dX12_columnIn_47 : decode cX12_columnIn 47 = .ok (.iadd, 1) := by decide +kernel
theorem dX12_columnIn_48 : decode cX12_columnIn 48 = .ok (.invokestatic 91, 3) := by decide +kernel
theorem dX12_columnIn_51 : decode cX12_columnIn 51 = .ok (.ireturn, 1) := by decide +kernel
theorem dX12_offers_0 : decode cX12_offers 0 = .ok (.iload_n 1, 1) := by decide +kernel
theorem dX12_offers_1 : decode cX12_offers 1 = .ok (.aload_n 0, 1) := by decide +kernel
theorem dX12_offers_2 : decode cX12_offers 2 = .ok (.getfield 167, 3) := by decide +kernel
theorem dX12_offers_5 : decode cX12_offers 5 = .ok (.if_icmp .le 24, 3) := by decide +kernel
theorem dX12_offers_8 : decode cX12_offers 8 = .ok (.aload_n 0, 1) := by decide +kernel
theorem dX12_offers_9 : decode cX12_offers 9 = .ok (.iload_n 1, 1) := by decide +kernel
theorem dX12_offers_10 : decode cX12_offers 10 = .ok (.putfield 167, 3) := by decide +kernel
theorem dX12_offers_13 : decode cX12_offers 13 = .ok (.aload_n 0, 1) := by decide +kernel
theorem dX12_offers_14 : decode cX12_offers 14 = .ok (.iload_n 2, 1) := by decide +kernel
theorem dX12_offers_15 : decode cX12_offers 15 = .ok (.putfield 170, 3) := by decide +kernel
theorem dX12_offers_18 : decode cX12_offers 18 = .ok (.aload_n 0, 1) := by decide +kernel
theorem dX12_offers_19 : decode cX12_offers 19 = .ok (.iload_n 3, 1) := by decide +kernel
theorem dX12_offers_20 : decode cX12_offers 20 = .ok (.putfield 173, 3) := by decide +kernel
theorem dX12_offers_23 : decode cX12_offers 23 = .ok (.aload_n 0, 1) := by decide +kernel
theorem dX12_offers_24 : decode cX12_offers 24 = .ok (.iload 4, 2) := by decide +kernel
theorem dX12_offers_26 : decode cX12_offers 26 = .ok (.putfield 176, 3) := by decide +kernel
theorem dX12_offers_29 : decode cX12_offers 29 = .ok (.return_, 1) := by decide +kernel
theorem dX12_decides_0 : decode cX12_decides 0 = .ok (.aload_n 0, 1) := by decide +kernel
theorem dX12_decides_1 : decode cX12_decides 1 = .ok (.getfield 47, 3) := by decide +kernel
theorem dX12_decides_4 : decode cX12_decides 4 = .ok (.iload_n 1, 1) := by decide +kernel
theorem dX12_decides_5 : decode cX12_decides 5 = .ok (.iaload, 1) := by decide +kernel
theorem dX12_decides_6 : decode cX12_decides 6 = .ok (.istore_n 2, 1) := by decide +kernel
theorem dX12_decides_7 : decode cX12_decides 7 = .ok (.bipush (-9), 2) := by decide +kernel
theorem dX12_decides_9 : decode cX12_decides 9 = .ok (.istore_n 3, 1) := by decide +kernel
theorem dX12_decides_10 : decode cX12_decides 10 = .ok (.iconst 1, 1) := by decide +kernel
theorem dX12_decides_11 : decode cX12_decides 11 = .ok (.istore 4, 2) := by decide +kernel
theorem dX12_decides_13 : decode cX12_decides 13 = .ok (.aload_n 0, 1) := by decide +kernel
theorem dX12_decides_14 : decode cX12_decides 14 = .ok (.getfield 41, 3) := by decide +kernel
theorem dX12_decides_17 : decode cX12_decides 17 = .ok (.iload_n 1, 1) := by decide +kernel
theorem dX12_decides_18 : decode cX12_decides 18 = .ok (.iaload, 1) := by decide +kernel
theorem dX12_decides_19 : decode cX12_decides 19 = .ok (.istore 5, 2) := by decide +kernel
theorem dX12_decides_21 : decode cX12_decides 21 = .ok (.iload 5, 2) := by decide +kernel
theorem dX12_decides_23 : decode cX12_decides 23 = .ok (.aload_n 0, 1) := by decide +kernel
theorem dX12_decides_24 : decode cX12_decides 24 = .ok (.getfield 41, 3) := by decide +kernel
theorem dX12_decides_27 : decode cX12_decides 27 = .ok (.iload_n 1, 1) := by decide +kernel
theorem dX12_decides_28 : decode cX12_decides 28 = .ok (.iconst 1, 1) := by decide +kernel
theorem dX12_decides_29 : decode cX12_decides 29 = .ok (.iadd, 1) := by decide +kernel
theorem dX12_decides_30 : decode cX12_decides 30 = .ok (.iaload, 1) := by decide +kernel
theorem dX12_decides_31 : decode cX12_decides 31 = .ok (.if_icmp .ge 91, 3) := by decide +kernel
theorem dX12_decides_34 : decode cX12_decides 34 = .ok (.iload 4, 2) := by decide +kernel
theorem dX12_decides_36 : decode cX12_decides 36 = .ok (.ifCond .eq 86, 3) := by decide +kernel
theorem dX12_decides_39 : decode cX12_decides 39 = .ok (.aload_n 0, 1) := by decide +kernel
theorem dX12_decides_40 : decode cX12_decides 40 = .ok (.getfield 35, 3) := by decide +kernel
theorem dX12_decides_43 : decode cX12_decides 43 = .ok (.iload 5, 2) := by decide +kernel
theorem dX12_decides_45 : decode cX12_decides 45 = .ok (.iaload, 1) := by decide +kernel
theorem dX12_decides_46 : decode cX12_decides 46 = .ok (.bipush (-9), 2) := by decide +kernel
theorem dX12_decides_48 : decode cX12_decides 48 = .ok (.if_icmp .eq 7, 3) := by decide +kernel
theorem dX12_decides_51 : decode cX12_decides 51 = .ok (.iconst 1, 1) := by decide +kernel
theorem dX12_decides_52 : decode cX12_decides 52 = .ok (.goto 4, 3) := by decide +kernel
theorem dX12_decides_55 : decode cX12_decides 55 = .ok (.iconst 0, 1) := by decide +kernel
theorem dX12_decides_56 : decode cX12_decides 56 = .ok (.istore 4, 2) := by decide +kernel
theorem dX12_decides_58 : decode cX12_decides 58 = .ok (.iload 4, 2) := by decide +kernel
theorem dX12_decides_60 : decode cX12_decides 60 = .ok (.ifCond .eq 56, 3) := by decide +kernel
theorem dX12_decides_63 : decode cX12_decides 63 = .ok (.aload_n 0, 1) := by decide +kernel
theorem dX12_decides_64 : decode cX12_decides 64 = .ok (.getfield 35, 3) := by decide +kernel
theorem dX12_decides_67 : decode cX12_decides 67 = .ok (.iload 5, 2) := by decide +kernel
theorem dX12_decides_69 : decode cX12_decides 69 = .ok (.iaload, 1) := by decide +kernel
theorem dX12_decides_70 : decode cX12_decides 70 = .ok (.istore_n 3, 1) := by decide +kernel
theorem dX12_decides_71 : decode cX12_decides 71 = .ok (.aload_n 0, 1) := by decide +kernel
theorem dX12_decides_72 : decode cX12_decides 72 = .ok (.getfield 50, 3) := by decide +kernel
theorem dX12_decides_75 : decode cX12_decides 75 = .ok (.bipush 12, 2) := by decide +kernel
theorem dX12_decides_77 : decode cX12_decides 77 = .ok (.iload_n 1, 1) := by decide +kernel
theorem dX12_decides_78 : decode cX12_decides 78 = .ok (.imul, 1) := by decide +kernel
theorem dX12_decides_79 : decode cX12_decides 79 = .ok (.iload_n 2, 1) := by decide +kernel
theorem dX12_decides_80 : decode cX12_decides 80 = .ok (.iadd, 1) := by decide +kernel
theorem dX12_decides_81 : decode cX12_decides 81 = .ok (.iconst 1, 1) := by decide +kernel
theorem dX12_decides_82 : decode cX12_decides 82 = .ok (.isub, 1) := by decide +kernel
theorem dX12_decides_83 : decode cX12_decides 83 = .ok (.iaload, 1) := by decide +kernel
theorem dX12_decides_84 : decode cX12_decides 84 = .ok (.iload_n 3, 1) := by decide +kernel
theorem dX12_decides_85 : decode cX12_decides 85 = .ok (.if_icmp .eq 9, 3) := by decide +kernel
theorem dX12_decides_88 : decode cX12_decides 88 = .ok (.iinc 2 (-1), 3) := by decide +kernel
theorem dX12_decides_91 : decode cX12_decides 91 = .ok (.goto (-20), 3) := by decide +kernel
theorem dX12_decides_94 : decode cX12_decides 94 = .ok (.iinc 2 (-1), 3) := by decide +kernel
theorem dX12_decides_97 : decode cX12_decides 97 = .ok (.aload_n 0, 1) := by decide +kernel
theorem dX12_decides_98 : decode cX12_decides 98 = .ok (.getfield 32, 3) := by decide +kernel
theorem dX12_decides_101 : decode cX12_decides 101 = .ok (.iload 5, 2) := by decide +kernel
theorem dX12_decides_103 : decode cX12_decides 103 = .ok (.iaload, 1) := by decide +kernel
theorem dX12_decides_104 : decode cX12_decides 104 = .ok (.bipush (-9), 2) := by decide +kernel
theorem dX12_decides_106 : decode cX12_decides 106 = .ok (.if_icmp .ne 7, 3) := by decide +kernel
theorem dX12_decides_109 : decode cX12_decides 109 = .ok (.iconst 1, 1) := by decide +kernel
theorem dX12_decides_110 : decode cX12_decides 110 = .ok (.goto 4, 3) := by decide +kernel
theorem dX12_decides_113 : decode cX12_decides 113 = .ok (.iconst 0, 1) := by decide +kernel
theorem dX12_decides_114 : decode cX12_decides 114 = .ok (.istore 4, 2) := by decide +kernel
theorem dX12_decides_116 : decode cX12_decides 116 = .ok (.iinc 5 1, 3) := by decide +kernel
theorem dX12_decides_119 : decode cX12_decides 119 = .ok (.goto (-98), 3) := by decide +kernel
theorem dX12_decides_122 : decode cX12_decides 122 = .ok (.iload_n 2, 1) := by decide +kernel
theorem dX12_decides_123 : decode cX12_decides 123 = .ok (.ifCond .le 19, 3) := by decide +kernel
theorem dX12_decides_126 : decode cX12_decides 126 = .ok (.aload_n 0, 1) := by decide +kernel
theorem dX12_decides_127 : decode cX12_decides 127 = .ok (.getfield 50, 3) := by decide +kernel
theorem dX12_decides_130 : decode cX12_decides 130 = .ok (.bipush 12, 2) := by decide +kernel
theorem dX12_decides_132 : decode cX12_decides 132 = .ok (.iload_n 1, 1) := by decide +kernel
theorem dX12_decides_133 : decode cX12_decides 133 = .ok (.imul, 1) := by decide +kernel
theorem dX12_decides_134 : decode cX12_decides 134 = .ok (.iload_n 2, 1) := by decide +kernel
theorem dX12_decides_135 : decode cX12_decides 135 = .ok (.iadd, 1) := by decide +kernel
theorem dX12_decides_136 : decode cX12_decides 136 = .ok (.iconst 1, 1) := by decide +kernel
theorem dX12_decides_137 : decode cX12_decides 137 = .ok (.isub, 1) := by decide +kernel
theorem dX12_decides_138 : decode cX12_decides 138 = .ok (.iaload, 1) := by decide +kernel
theorem dX12_decides_139 : decode cX12_decides 139 = .ok (.goto 5, 3) := by decide +kernel
theorem dX12_decides_142 : decode cX12_decides 142 = .ok (.bipush (-9), 2) := by decide +kernel
theorem dX12_decides_144 : decode cX12_decides 144 = .ok (.istore 5, 2) := by decide +kernel
theorem dX12_decides_146 : decode cX12_decides 146 = .ok (.iload 5, 2) := by decide +kernel
theorem dX12_decides_148 : decode cX12_decides 148 = .ok (.bipush (-9), 2) := by decide +kernel
theorem dX12_decides_150 : decode cX12_decides 150 = .ok (.if_icmp .ne 10, 3) := by decide +kernel
theorem dX12_decides_153 : decode cX12_decides 153 = .ok (.aload_n 0, 1) := by decide +kernel
theorem dX12_decides_154 : decode cX12_decides 154 = .ok (.getfield 157, 3) := by decide +kernel
theorem dX12_decides_157 : decode cX12_decides 157 = .ok (.goto 9, 3) := by decide +kernel
theorem dX12_decides_160 : decode cX12_decides 160 = .ok (.aload_n 0, 1) := by decide +kernel
theorem dX12_decides_161 : decode cX12_decides 161 = .ok (.iload 5, 2) := by decide +kernel
theorem dX12_decides_163 : decode cX12_decides 163 = .ok (.invokevirtual 179, 3) := by decide +kernel
theorem dX12_decides_166 : decode cX12_decides 166 = .ok (.istore 6, 2) := by decide +kernel
theorem dX12_decides_168 : decode cX12_decides 168 = .ok (.aload_n 0, 1) := by decide +kernel
theorem dX12_decides_169 : decode cX12_decides 169 = .ok (.bipush (-2), 2) := by decide +kernel
theorem dX12_decides_171 : decode cX12_decides 171 = .ok (.putfield 167, 3) := by decide +kernel
theorem dX12_decides_174 : decode cX12_decides 174 = .ok (.iload_n 3, 1) := by decide +kernel
theorem dX12_decides_175 : decode cX12_decides 175 = .ok (.bipush (-9), 2) := by decide +kernel
theorem dX12_decides_177 : decode cX12_decides 177 = .ok (.if_icmp .eq 80, 3) := by decide +kernel
theorem dX12_decides_180 : decode cX12_decides 180 = .ok (.aload_n 0, 1) := by decide +kernel
theorem dX12_decides_181 : decode cX12_decides 181 = .ok (.aload_n 0, 1) := by decide +kernel
theorem dX12_decides_182 : decode cX12_decides 182 = .ok (.getfield 32, 3) := by decide +kernel
theorem dX12_decides_185 : decode cX12_decides 185 = .ok (.iload_n 3, 1) := by decide +kernel
theorem dX12_decides_186 : decode cX12_decides 186 = .ok (.iaload, 1) := by decide +kernel
theorem dX12_decides_187 : decode cX12_decides 187 = .ok (.iconst 4, 1) := by decide +kernel
theorem dX12_decides_188 : decode cX12_decides 188 = .ok (.invokevirtual 120, 3) := by decide +kernel
theorem dX12_decides_191 : decode cX12_decides 191 = .ok (.istore 7, 2) := by decide +kernel
theorem dX12_decides_193 : decode cX12_decides 193 = .ok (.iload 7, 2) := by decide +kernel
theorem dX12_decides_195 : decode cX12_decides 195 = .ok (.ifCond .ne 17, 3) := by decide +kernel
theorem dX12_decides_198 : decode cX12_decides 198 = .ok (.aload_n 0, 1) := by decide +kernel
theorem dX12_decides_199 : decode cX12_decides 199 = .ok (.getfield 56, 3) := by decide +kernel
theorem dX12_decides_202 : decode cX12_decides 202 = .ok (.aload_n 0, 1) := by decide +kernel
theorem dX12_decides_203 : decode cX12_decides 203 = .ok (.getfield 20, 3) := by decide +kernel
theorem dX12_decides_206 : decode cX12_decides 206 = .ok (.iload_n 3, 1) := by decide +kernel
theorem dX12_decides_207 : decode cX12_decides 207 = .ok (.iaload, 1) := by decide +kernel
theorem dX12_decides_208 : decode cX12_decides 208 = .ok (.iaload, 1) := by decide +kernel
theorem dX12_decides_209 : decode cX12_decides 209 = .ok (.goto 22, 3) := by decide +kernel
theorem dX12_decides_212 : decode cX12_decides 212 = .ok (.iload 7, 2) := by decide +kernel
theorem dX12_decides_214 : decode cX12_decides 214 = .ok (.iconst 1, 1) := by decide +kernel
theorem dX12_decides_215 : decode cX12_decides 215 = .ok (.if_icmp .ne 11, 3) := by decide +kernel
theorem dX12_decides_218 : decode cX12_decides 218 = .ok (.aload_n 0, 1) := by decide +kernel
theorem dX12_decides_219 : decode cX12_decides 219 = .ok (.iload_n 3, 1) := by decide +kernel
theorem dX12_decides_220 : decode cX12_decides 220 = .ok (.invokevirtual 179, 3) := by decide +kernel
theorem dX12_decides_223 : decode cX12_decides 223 = .ok (.goto 8, 3) := by decide +kernel
theorem dX12_decides_226 : decode cX12_decides 226 = .ok (.aload_n 0, 1) := by decide +kernel
theorem dX12_decides_227 : decode cX12_decides 227 = .ok (.iload_n 3, 1) := by decide +kernel
theorem dX12_decides_228 : decode cX12_decides 228 = .ok (.invokevirtual 163, 3) := by decide +kernel
theorem dX12_decides_231 : decode cX12_decides 231 = .ok (.istore 8, 2) := by decide +kernel
theorem dX12_decides_233 : decode cX12_decides 233 = .ok (.aload_n 0, 1) := by decide +kernel
theorem dX12_decides_234 : decode cX12_decides 234 = .ok (.aload_n 0, 1) := by decide +kernel
theorem dX12_decides_235 : decode cX12_decides 235 = .ok (.aload_n 0, 1) := by decide +kernel
theorem dX12_decides_236 : decode cX12_decides 236 = .ok (.getfield 32, 3) := by decide +kernel
theorem dX12_decides_239 : decode cX12_decides 239 = .ok (.iload_n 3, 1) := by decide +kernel
theorem dX12_decides_240 : decode cX12_decides 240 = .ok (.iaload, 1) := by decide +kernel
theorem dX12_decides_241 : decode cX12_decides 241 = .ok (.iconst 1, 1) := by decide +kernel
theorem dX12_decides_242 : decode cX12_decides 242 = .ok (.invokevirtual 120, 3) := by decide +kernel
theorem dX12_decides_245 : decode cX12_decides 245 = .ok (.iload 8, 2) := by decide +kernel
theorem dX12_decides_247 : decode cX12_decides 247 = .ok (.iconst 3, 1) := by decide +kernel
theorem dX12_decides_248 : decode cX12_decides 248 = .ok (.aload_n 0, 1) := by decide +kernel
theorem dX12_decides_249 : decode cX12_decides 249 = .ok (.getfield 32, 3) := by decide +kernel
theorem dX12_decides_252 : decode cX12_decides 252 = .ok (.iload_n 3, 1) := by decide +kernel
theorem dX12_decides_253 : decode cX12_decides 253 = .ok (.iaload, 1) := by decide +kernel
theorem dX12_decides_254 : decode cX12_decides 254 = .ok (.invokevirtual 182, 3) := by decide +kernel
theorem dX12_decides_257 : decode cX12_decides 257 = .ok (.aload_n 0, 1) := by decide +kernel
theorem dX12_decides_258 : decode cX12_decides 258 = .ok (.getfield 41, 3) := by decide +kernel
theorem dX12_decides_261 : decode cX12_decides 261 = .ok (.iload_n 1, 1) := by decide +kernel
theorem dX12_decides_262 : decode cX12_decides 262 = .ok (.iaload, 1) := by decide +kernel
theorem dX12_decides_263 : decode cX12_decides 263 = .ok (.istore 7, 2) := by decide +kernel
theorem dX12_decides_265 : decode cX12_decides 265 = .ok (.iload 7, 2) := by decide +kernel
theorem dX12_decides_267 : decode cX12_decides 267 = .ok (.aload_n 0, 1) := by decide +kernel
theorem dX12_decides_268 : decode cX12_decides 268 = .ok (.getfield 41, 3) := by decide +kernel
theorem dX12_decides_271 : decode cX12_decides 271 = .ok (.iload_n 1, 1) := by decide +kernel
theorem dX12_decides_272 : decode cX12_decides 272 = .ok (.iconst 1, 1) := by decide +kernel
theorem dX12_decides_273 : decode cX12_decides 273 = .ok (.iadd, 1) := by decide +kernel
theorem dX12_decides_274 : decode cX12_decides 274 = .ok (.iaload, 1) := by decide +kernel
theorem dX12_decides_275 : decode cX12_decides 275 = .ok (.if_icmp .ge 7, 3) := by decide +kernel
theorem dX12_decides_278 : decode cX12_decides 278 = .ok (.iconst 1, 1) := by decide +kernel
theorem dX12_decides_279 : decode cX12_decides 279 = .ok (.goto 4, 3) := by decide +kernel
theorem dX12_decides_282 : decode cX12_decides 282 = .ok (.iconst 0, 1) := by decide +kernel
theorem dX12_decides_283 : decode cX12_decides 283 = .ok (.istore 8, 2) := by decide +kernel
theorem dX12_decides_285 : decode cX12_decides 285 = .ok (.iload 8, 2) := by decide +kernel
theorem dX12_decides_287 : decode cX12_decides 287 = .ok (.ifCond .eq 13, 3) := by decide +kernel
theorem dX12_decides_290 : decode cX12_decides 290 = .ok (.aload_n 0, 1) := by decide +kernel
theorem dX12_decides_291 : decode cX12_decides 291 = .ok (.iload 7, 2) := by decide +kernel
theorem dX12_decides_293 : decode cX12_decides 293 = .ok (.iconst 2, 1) := by decide +kernel
theorem dX12_decides_294 : decode cX12_decides 294 = .ok (.invokevirtual 148, 3) := by decide +kernel
theorem dX12_decides_297 : decode cX12_decides 297 = .ok (.goto 5, 3) := by decide +kernel
theorem dX12_decides_300 : decode cX12_decides 300 = .ok (.bipush (-9), 2) := by decide +kernel
theorem dX12_decides_302 : decode cX12_decides 302 = .ok (.istore 9, 2) := by decide +kernel
theorem dX12_decides_304 : decode cX12_decides 304 = .ok (.iload 9, 2) := by decide +kernel
theorem dX12_decides_306 : decode cX12_decides 306 = .ok (.bipush (-9), 2) := by decide +kernel
theorem dX12_decides_308 : decode cX12_decides 308 = .ok (.if_icmp .eq 32, 3) := by decide +kernel
theorem dX12_decides_311 : decode cX12_decides 311 = .ok (.aload_n 0, 1) := by decide +kernel
theorem dX12_decides_312 : decode cX12_decides 312 = .ok (.aload_n 0, 1) := by decide +kernel
theorem dX12_decides_313 : decode cX12_decides 313 = .ok (.iload 9, 2) := by decide +kernel
theorem dX12_decides_315 : decode cX12_decides 315 = .ok (.iconst 1, 1) := by decide +kernel
theorem dX12_decides_316 : decode cX12_decides 316 = .ok (.invokevirtual 120, 3) := by decide +kernel
theorem dX12_decides_319 : decode cX12_decides 319 = .ok (.iload 6, 2) := by decide +kernel
theorem dX12_decides_321 : decode cX12_decides 321 = .ok (.aload_n 0, 1) := by decide +kernel
theorem dX12_decides_322 : decode cX12_decides 322 = .ok (.iload 9, 2) := by decide +kernel
theorem dX12_decides_324 : decode cX12_decides 324 = .ok (.iconst 2, 1) := by decide +kernel
theorem dX12_decides_325 : decode cX12_decides 325 = .ok (.invokevirtual 120, 3) := by decide +kernel
theorem dX12_decides_328 : decode cX12_decides 328 = .ok (.aload_n 0, 1) := by decide +kernel
theorem dX12_decides_329 : decode cX12_decides 329 = .ok (.getfield 154, 3) := by decide +kernel
theorem dX12_decides_332 : decode cX12_decides 332 = .ok (.imul, 1) := by decide +kernel
theorem dX12_decides_333 : decode cX12_decides 333 = .ok (.iadd, 1) := by decide +kernel
theorem dX12_decides_334 : decode cX12_decides 334 = .ok (.iconst 4, 1) := by decide +kernel
theorem dX12_decides_335 : decode cX12_decides 335 = .ok (.iload 9, 2) := by decide +kernel
theorem dX12_decides_337 : decode cX12_decides 337 = .ok (.invokevirtual 182, 3) := by decide +kernel
theorem dX12_decides_340 : decode cX12_decides 340 = .ok (.iload 8, 2) := by decide +kernel
theorem dX12_decides_342 : decode cX12_decides 342 = .ok (.ifCond .eq 34, 3) := by decide +kernel
theorem dX12_decides_345 : decode cX12_decides 345 = .ok (.iload 7, 2) := by decide +kernel
theorem dX12_decides_347 : decode cX12_decides 347 = .ok (.ifCond .le 29, 3) := by decide +kernel
theorem dX12_decides_350 : decode cX12_decides 350 = .ok (.aload_n 0, 1) := by decide +kernel
theorem dX12_decides_351 : decode cX12_decides 351 = .ok (.getfield 32, 3) := by decide +kernel
theorem dX12_decides_354 : decode cX12_decides 354 = .ok (.iload 7, 2) := by decide +kernel
theorem dX12_decides_356 : decode cX12_decides 356 = .ok (.iconst 1, 1) := by decide +kernel
theorem dX12_decides_357 : decode cX12_decides 357 = .ok (.isub, 1) := by decide +kernel
theorem dX12_decides_358 : decode cX12_decides 358 = .ok (.iaload, 1) := by decide +kernel
theorem dX12_decides_359 : decode cX12_decides 359 = .ok (.bipush (-9), 2) := by decide +kernel
theorem dX12_decides_361 : decode cX12_decides 361 = .ok (.if_icmp .ne 15, 3) := by decide +kernel
theorem dX12_decides_364 : decode cX12_decides 364 = .ok (.aload_n 0, 1) := by decide +kernel
theorem dX12_decides_365 : decode cX12_decides 365 = .ok (.iload 7, 2) := by decide +kernel
theorem dX12_decides_367 : decode cX12_decides 367 = .ok (.iconst 1, 1) := by decide +kernel
theorem dX12_decides_368 : decode cX12_decides 368 = .ok (.isub, 1) := by decide +kernel
theorem dX12_decides_369 : decode cX12_decides 369 = .ok (.iconst 3, 1) := by decide +kernel
theorem dX12_decides_370 : decode cX12_decides 370 = .ok (.invokevirtual 148, 3) := by decide +kernel
theorem dX12_decides_373 : decode cX12_decides 373 = .ok (.goto 5, 3) := by decide +kernel
theorem dX12_decides_376 : decode cX12_decides 376 = .ok (.bipush (-9), 2) := by decide +kernel
theorem dX12_decides_378 : decode cX12_decides 378 = .ok (.istore 10, 2) := by decide +kernel
theorem dX12_decides_380 : decode cX12_decides 380 = .ok (.iload 10, 2) := by decide +kernel
theorem dX12_decides_382 : decode cX12_decides 382 = .ok (.bipush (-9), 2) := by decide +kernel
theorem dX12_decides_384 : decode cX12_decides 384 = .ok (.if_icmp .eq 32, 3) := by decide +kernel
theorem dX12_decides_387 : decode cX12_decides 387 = .ok (.aload_n 0, 1) := by decide +kernel
theorem dX12_decides_388 : decode cX12_decides 388 = .ok (.aload_n 0, 1) := by decide +kernel
theorem dX12_decides_389 : decode cX12_decides 389 = .ok (.iload 10, 2) := by decide +kernel
theorem dX12_decides_391 : decode cX12_decides 391 = .ok (.iconst 1, 1) := by decide +kernel
theorem dX12_decides_392 : decode cX12_decides 392 = .ok (.invokevirtual 120, 3) := by decide +kernel
theorem dX12_decides_395 : decode cX12_decides 395 = .ok (.iload 6, 2) := by decide +kernel
theorem dX12_decides_397 : decode cX12_decides 397 = .ok (.aload_n 0, 1) := by decide +kernel
theorem dX12_decides_398 : decode cX12_decides 398 = .ok (.iload 10, 2) := by decide +kernel
theorem dX12_decides_400 : decode cX12_decides 400 = .ok (.iconst 2, 1) := by decide +kernel
theorem dX12_decides_401 : decode cX12_decides 401 = .ok (.invokevirtual 120, 3) := by decide +kernel
theorem dX12_decides_404 : decode cX12_decides 404 = .ok (.aload_n 0, 1) := by decide +kernel
theorem dX12_decides_405 : decode cX12_decides 405 = .ok (.getfield 154, 3) := by decide +kernel
theorem dX12_decides_408 : decode cX12_decides 408 = .ok (.imul, 1) := by decide +kernel
theorem dX12_decides_409 : decode cX12_decides 409 = .ok (.iadd, 1) := by decide +kernel
theorem dX12_decides_410 : decode cX12_decides 410 = .ok (.iconst 5, 1) := by decide +kernel
theorem dX12_decides_411 : decode cX12_decides 411 = .ok (.iload 10, 2) := by decide +kernel
theorem dX12_decides_413 : decode cX12_decides 413 = .ok (.invokevirtual 182, 3) := by decide +kernel
theorem dX12_decides_416 : decode cX12_decides 416 = .ok (.aload_n 0, 1) := by decide +kernel
theorem dX12_decides_417 : decode cX12_decides 417 = .ok (.iconst (-1), 1) := by decide +kernel
theorem dX12_decides_418 : decode cX12_decides 418 = .ok (.iload 6, 2) := by decide +kernel
theorem dX12_decides_420 : decode cX12_decides 420 = .ok (.iload 5, 2) := by decide +kernel
theorem dX12_decides_422 : decode cX12_decides 422 = .ok (.bipush (-9), 2) := by decide +kernel
theorem dX12_decides_424 : decode cX12_decides 424 = .ok (.if_icmp .ne 7, 3) := by decide +kernel
theorem dX12_decides_427 : decode cX12_decides 427 = .ok (.iconst 0, 1) := by decide +kernel
theorem dX12_decides_428 : decode cX12_decides 428 = .ok (.goto 17, 3) := by decide +kernel
theorem dX12_decides_431 : decode cX12_decides 431 = .ok (.aload_n 0, 1) := by decide +kernel
theorem dX12_decides_432 : decode cX12_decides 432 = .ok (.iload 5, 2) := by decide +kernel
theorem dX12_decides_434 : decode cX12_decides 434 = .ok (.invokevirtual 160, 3) := by decide +kernel
theorem dX12_decides_437 : decode cX12_decides 437 = .ok (.ifCond .eq 7, 3) := by decide +kernel
theorem dX12_decides_440 : decode cX12_decides 440 = .ok (.iconst 2, 1) := by decide +kernel
theorem dX12_decides_441 : decode cX12_decides 441 = .ok (.goto 4, 3) := by decide +kernel
theorem dX12_decides_444 : decode cX12_decides 444 = .ok (.iconst 1, 1) := by decide +kernel
theorem dX12_decides_445 : decode cX12_decides 445 = .ok (.iload 5, 2) := by decide +kernel
theorem dX12_decides_447 : decode cX12_decides 447 = .ok (.bipush (-9), 2) := by decide +kernel
theorem dX12_decides_449 : decode cX12_decides 449 = .ok (.if_icmp .ne 8, 3) := by decide +kernel
theorem dX12_decides_452 : decode cX12_decides 452 = .ok (.bipush (-9), 2) := by decide +kernel
theorem dX12_decides_454 : decode cX12_decides 454 = .ok (.goto 10, 3) := by decide +kernel
theorem dX12_decides_457 : decode cX12_decides 457 = .ok (.aload_n 0, 1) := by decide +kernel
theorem dX12_decides_458 : decode cX12_decides 458 = .ok (.getfield 32, 3) := by decide +kernel
theorem dX12_decides_461 : decode cX12_decides 461 = .ok (.iload 5, 2) := by decide +kernel
theorem dX12_decides_463 : decode cX12_decides 463 = .ok (.iaload, 1) := by decide +kernel
theorem dX12_decides_464 : decode cX12_decides 464 = .ok (.invokevirtual 182, 3) := by decide +kernel
theorem dX12_decides_467 : decode cX12_decides 467 = .ok (.aload_n 0, 1) := by decide +kernel
theorem dX12_decides_468 : decode cX12_decides 468 = .ok (.aload_n 0, 1) := by decide +kernel
theorem dX12_decides_469 : decode cX12_decides 469 = .ok (.getfield 170, 3) := by decide +kernel
theorem dX12_decides_472 : decode cX12_decides 472 = .ok (.ifCond .ge 7, 3) := by decide +kernel
theorem dX12_decides_475 : decode cX12_decides 475 = .ok (.iconst 0, 1) := by decide +kernel
theorem dX12_decides_476 : decode cX12_decides 476 = .ok (.goto 12, 3) := by decide +kernel
theorem dX12_decides_479 : decode cX12_decides 479 = .ok (.aload_n 0, 1) := by decide +kernel
theorem dX12_decides_480 : decode cX12_decides 480 = .ok (.getfield 170, 3) := by decide +kernel
theorem dX12_decides_483 : decode cX12_decides 483 = .ok (.bipush 40, 2) := by decide +kernel
theorem dX12_decides_485 : decode cX12_decides 485 = .ok (.invokestatic 91, 3) := by decide +kernel
theorem dX12_decides_488 : decode cX12_decides 488 = .ok (.putfield 170, 3) := by decide +kernel
theorem dX12_decides_491 : decode cX12_decides 491 = .ok (.return_, 1) := by decide +kernel
theorem dX12_isFree_0 : decode cX12_isFree 0 = .ok (.aload_n 0, 1) := by decide +kernel
theorem dX12_isFree_1 : decode cX12_isFree 1 = .ok (.iload_n 1, 1) := by decide +kernel
theorem dX12_isFree_2 : decode cX12_isFree 2 = .ok (.invokevirtual 114, 3) := by decide +kernel
theorem dX12_isFree_5 : decode cX12_isFree 5 = .ok (.ifCond .ne 16, 3) := by decide +kernel
theorem dX12_isFree_8 : decode cX12_isFree 8 = .ok (.aload_n 0, 1) := by decide +kernel
theorem dX12_isFree_9 : decode cX12_isFree 9 = .ok (.getfield 44, 3) := by decide +kernel
theorem dX12_isFree_12 : decode cX12_isFree 12 = .ok (.iload_n 1, 1) := by decide +kernel
theorem dX12_isFree_13 : decode cX12_isFree 13 = .ok (.baload, 1) := by decide +kernel
theorem dX12_isFree_14 : decode cX12_isFree 14 = .ok (.ifCond .ne 7, 3) := by decide +kernel
theorem dX12_isFree_17 : decode cX12_isFree 17 = .ok (.iconst 1, 1) := by decide +kernel
theorem dX12_isFree_18 : decode cX12_isFree 18 = .ok (.goto 4, 3) := by decide +kernel
theorem dX12_isFree_21 : decode cX12_isFree 21 = .ok (.iconst 0, 1) := by decide +kernel
theorem dX12_isFree_22 : decode cX12_isFree 22 = .ok (.ireturn, 1) := by decide +kernel
theorem dX12_settles_0 : decode cX12_settles 0 = .ok (.iconst 0, 1) := by decide +kernel
theorem dX12_settles_1 : decode cX12_settles 1 = .ok (.istore_n 3, 1) := by decide +kernel
theorem dX12_settles_2 : decode cX12_settles 2 = .ok (.iload_n 1, 1) := by decide +kernel
theorem dX12_settles_3 : decode cX12_settles 3 = .ok (.istore 4, 2) := by decide +kernel
theorem dX12_settles_5 : decode cX12_settles 5 = .ok (.iload 4, 2) := by decide +kernel
theorem dX12_settles_7 : decode cX12_settles 7 = .ok (.iload_n 2, 1) := by decide +kernel
theorem dX12_settles_8 : decode cX12_settles 8 = .ok (.if_icmp .ge 75, 3) := by decide +kernel
theorem dX12_settles_11 : decode cX12_settles 11 = .ok (.aload_n 0, 1) := by decide +kernel
theorem dX12_settles_12 : decode cX12_settles 12 = .ok (.iload 4, 2) := by decide +kernel
theorem dX12_settles_14 : decode cX12_settles 14 = .ok (.invokevirtual 185, 3) := by decide +kernel
theorem dX12_settles_17 : decode cX12_settles 17 = .ok (.ifCond .eq 60, 3) := by decide +kernel
theorem dX12_settles_20 : decode cX12_settles 20 = .ok (.aload_n 0, 1) := by decide +kernel
theorem dX12_settles_21 : decode cX12_settles 21 = .ok (.getfield 7, 3) := by decide +kernel
theorem dX12_settles_24 : decode cX12_settles 24 = .ok (.bipush 41, 2) := by decide +kernel
theorem dX12_settles_26 : decode cX12_settles 26 = .ok (.iload 4, 2) := by decide +kernel
theorem dX12_settles_28 : decode cX12_settles 28 = .ok (.iadd, 1) := by decide +kernel
theorem dX12_settles_29 : decode cX12_settles 29 = .ok (.iaload, 1) := by decide +kernel
theorem dX12_settles_30 : decode cX12_settles 30 = .ok (.ifCond .ne 47, 3) := by decide +kernel
theorem dX12_settles_33 : decode cX12_settles 33 = .ok (.aload_n 0, 1) := by decide +kernel
theorem dX12_settles_34 : decode cX12_settles 34 = .ok (.iload 4, 2) := by decide +kernel
theorem dX12_settles_36 : decode cX12_settles 36 = .ok (.invokevirtual 188, 3) := by decide +kernel
theorem dX12_settles_39 : decode cX12_settles 39 = .ok (.aload_n 0, 1) := by decide +kernel
theorem dX12_settles_40 : decode cX12_settles 40 = .ok (.getfield 56, 3) := by decide +kernel
theorem dX12_settles_43 : decode cX12_settles 43 = .ok (.iload 4, 2) := by decide +kernel
theorem dX12_settles_45 : decode cX12_settles 45 = .ok (.aload_n 0, 1) := by decide +kernel
theorem dX12_settles_46 : decode cX12_settles 46 = .ok (.getfield 170, 3) := by decide +kernel
theorem dX12_settles_49 : decode cX12_settles 49 = .ok (.iastore, 1) := by decide +kernel
theorem dX12_settles_50 : decode cX12_settles 50 = .ok (.iload_n 3, 1) := by decide +kernel
theorem dX12_settles_51 : decode cX12_settles 51 = .ok (.aload_n 0, 1) := by decide +kernel
theorem dX12_settles_52 : decode cX12_settles 52 = .ok (.getfield 170, 3) := by decide +kernel
theorem dX12_settles_55 : decode cX12_settles 55 = .ok (.aload_n 0, 1) := by decide +kernel
theorem dX12_settles_56 : decode cX12_settles 56 = .ok (.getfield 7, 3) := by decide +kernel
theorem dX12_settles_59 : decode cX12_settles 59 = .ok (.iconst 1, 1) := by decide +kernel
theorem dX12_settles_60 : decode cX12_settles 60 = .ok (.iload 4, 2) := by decide +kernel
theorem dX12_settles_62 : decode cX12_settles 62 = .ok (.iadd, 1) := by decide +kernel
theorem dX12_settles_63 : decode cX12_settles 63 = .ok (.iaload, 1) := by decide +kernel
theorem dX12_settles_64 : decode cX12_settles 64 = .ok (.if_icmp .ne 7, 3) := by decide +kernel
theorem dX12_settles_67 : decode cX12_settles 67 = .ok (.iconst 0, 1) := by decide +kernel
theorem dX12_settles_68 : decode cX12_settles 68 = .ok (.goto 7, 3) := by decide +kernel
theorem dX12_settles_71 : decode cX12_settles 71 = .ok (.iconst 1, 1) := by decide +kernel
theorem dX12_settles_72 : decode cX12_settles 72 = .ok (.iload 4, 2) := by decide +kernel
theorem dX12_settles_74 : decode cX12_settles 74 = .ok (.ishl, 1) := by decide +kernel
theorem dX12_settles_75 : decode cX12_settles 75 = .ok (.ior, 1) := by decide +kernel
theorem dX12_settles_76 : decode cX12_settles 76 = .ok (.istore_n 3, 1) := by decide +kernel
theorem dX12_settles_77 : decode cX12_settles 77 = .ok (.iinc 4 1, 3) := by decide +kernel
theorem dX12_settles_80 : decode cX12_settles 80 = .ok (.goto (-75), 3) := by decide +kernel
theorem dX12_settles_83 : decode cX12_settles 83 = .ok (.iload_n 3, 1) := by decide +kernel
theorem dX12_settles_84 : decode cX12_settles 84 = .ok (.ireturn, 1) := by decide +kernel
theorem dX12_bits_0 : decode cX12_bits 0 = .ok (.iconst 0, 1) := by decide +kernel
theorem dX12_bits_1 : decode cX12_bits 1 = .ok (.istore_n 1, 1) := by decide +kernel
theorem dX12_bits_2 : decode cX12_bits 2 = .ok (.iconst 0, 1) := by decide +kernel
theorem dX12_bits_3 : decode cX12_bits 3 = .ok (.istore_n 2, 1) := by decide +kernel
theorem dX12_bits_4 : decode cX12_bits 4 = .ok (.iload_n 2, 1) := by decide +kernel
theorem dX12_bits_5 : decode cX12_bits 5 = .ok (.bipush 20, 2) := by decide +kernel
theorem dX12_bits_7 : decode cX12_bits 7 = .ok (.if_icmp .ge 17, 3) := by decide +kernel
theorem dX12_bits_10 : decode cX12_bits 10 = .ok (.iload_n 1, 1) := by decide +kernel
theorem dX12_bits_11 : decode cX12_bits 11 = .ok (.iload_n 0, 1) := by decide +kernel
theorem dX12_bits_12 : decode cX12_bits 12 = .ok (.iload_n 2, 1) := by decide +kernel
theorem dX12_bits_13 : decode cX12_bits 13 = .ok (.ishr, 1) := by decide +kernel
theorem dX12_bits_14 : decode cX12_bits 14 = .ok (.iconst 1, 1) := by decide +kernel
theorem dX12_bits_15 : decode cX12_bits 15 = .ok (.iand, 1) := by decide +kernel
theorem dX12_bits_16 : decode cX12_bits 16 = .ok (.iadd, 1) := by decide +kernel
theorem dX12_bits_17 : decode cX12_bits 17 = .ok (.istore_n 1, 1) := by decide +kernel
theorem dX12_bits_18 : decode cX12_bits 18 = .ok (.iinc 2 1, 3) := by decide +kernel
theorem dX12_bits_21 : decode cX12_bits 21 = .ok (.goto (-17), 3) := by decide +kernel
theorem dX12_bits_24 : decode cX12_bits 24 = .ok (.iload_n 1, 1) := by decide +kernel
theorem dX12_bits_25 : decode cX12_bits 25 = .ok (.ireturn, 1) := by decide +kernel
theorem dX12_type_0 : decode cX12_type 0 = .ok (.iload_n 1, 1) := by decide +kernel
theorem dX12_type_1 : decode cX12_type 1 = .ok (.bipush 32, 2) := by decide +kernel
theorem dX12_type_3 : decode cX12_type 3 = .ok (.bipush 126, 2) := by decide +kernel
theorem dX12_type_5 : decode cX12_type 5 = .ok (.invokestatic 79, 3) := by decide +kernel
theorem dX12_type_8 : decode cX12_type 8 = .ok (.ifCond .ne 5, 3) := by decide +kernel
theorem dX12_type_11 : decode cX12_type 11 = .ok (.iconst (-1), 1) := by decide +kernel
theorem dX12_type_12 : decode cX12_type 12 = .ok (.ireturn, 1) := by decide +kernel
theorem dX12_type_13 : decode cX12_type 13 = .ok (.aload_n 0, 1) := by decide +kernel
theorem dX12_type_14 : decode cX12_type 14 = .ok (.getfield 191, 3) := by decide +kernel
theorem dX12_type_17 : decode cX12_type 17 = .ok (.bipush 72, 2) := by decide +kernel
theorem dX12_type_19 : decode cX12_type 19 = .ok (.if_icmp .ne 6, 3) := by decide +kernel
theorem dX12_type_22 : decode cX12_type 22 = .ok (.bipush (-3), 2) := by decide +kernel
theorem dX12_type_24 : decode cX12_type 24 = .ok (.ireturn, 1) := by decide +kernel
theorem dX12_type_25 : decode cX12_type 25 = .ok (.aload_n 0, 1) := by decide +kernel
theorem dX12_type_26 : decode cX12_type 26 = .ok (.getfield 17, 3) := by decide +kernel
theorem dX12_type_29 : decode cX12_type 29 = .ok (.aload_n 0, 1) := by decide +kernel
theorem dX12_type_30 : decode cX12_type 30 = .ok (.getfield 191, 3) := by decide +kernel
theorem dX12_type_33 : decode cX12_type 33 = .ok (.iload_n 1, 1) := by decide +kernel
theorem dX12_type_34 : decode cX12_type 34 = .ok (.iastore, 1) := by decide +kernel
theorem dX12_type_35 : decode cX12_type 35 = .ok (.aload_n 0, 1) := by decide +kernel
theorem dX12_type_36 : decode cX12_type 36 = .ok (.dup, 1) := by decide +kernel
theorem dX12_type_37 : decode cX12_type 37 = .ok (.getfield 191, 3) := by decide +kernel
theorem dX12_type_40 : decode cX12_type 40 = .ok (.iconst 1, 1) := by decide +kernel
theorem dX12_type_41 : decode cX12_type 41 = .ok (.iadd, 1) := by decide +kernel
theorem dX12_type_42 : decode cX12_type 42 = .ok (.putfield 191, 3) := by decide +kernel
theorem dX12_type_45 : decode cX12_type 45 = .ok (.aload_n 0, 1) := by decide +kernel
theorem dX12_type_46 : decode cX12_type 46 = .ok (.getfield 191, 3) := by decide +kernel
theorem dX12_type_49 : decode cX12_type 49 = .ok (.ireturn, 1) := by decide +kernel
theorem dX12_clear_0 : decode cX12_clear 0 = .ok (.aload_n 0, 1) := by decide +kernel
theorem dX12_clear_1 : decode cX12_clear 1 = .ok (.getfield 191, 3) := by decide +kernel
theorem dX12_clear_4 : decode cX12_clear 4 = .ok (.istore_n 1, 1) := by decide +kernel
theorem dX12_clear_5 : decode cX12_clear 5 = .ok (.aload_n 0, 1) := by decide +kernel
theorem dX12_clear_6 : decode cX12_clear 6 = .ok (.iconst 0, 1) := by decide +kernel
theorem dX12_clear_7 : decode cX12_clear 7 = .ok (.putfield 191, 3) := by decide +kernel
theorem dX12_clear_10 : decode cX12_clear 10 = .ok (.iload_n 1, 1) := by decide +kernel
theorem dX12_clear_11 : decode cX12_clear 11 = .ok (.ireturn, 1) := by decide +kernel
theorem dX12_isLineText_0 : decode cX12_isLineText 0 = .ok (.aload_n 0, 1) := by decide +kernel
theorem dX12_isLineText_1 : decode cX12_isLineText 1 = .ok (.iconst 0, 1) := by decide +kernel
theorem dX12_isLineText_2 : decode cX12_isLineText 2 = .ok (.putfield 194, 3) := by decide +kernel
theorem dX12_isLineText_5 : decode cX12_isLineText 5 = .ok (.aload_n 0, 1) := by decide +kernel
theorem dX12_isLineText_6 : decode cX12_isLineText 6 = .ok (.getfield 194, 3) := by decide +kernel
theorem dX12_isLineText_9 : decode cX12_isLineText 9 = .ok (.aload_n 0, 1) := by decide +kernel
theorem dX12_isLineText_10 : decode cX12_isLineText 10 = .ok (.getfield 191, 3) := by decide +kernel
theorem dX12_isLineText_13 : decode cX12_isLineText 13 = .ok (.if_icmp .ge 30, 3) := by decide +kernel
theorem dX12_isLineText_16 : decode cX12_isLineText 16 = .ok (.aload_n 0, 1) := by decide +kernel
theorem dX12_isLineText_17 : decode cX12_isLineText 17 = .ok (.getfield 17, 3) := by decide +kernel
theorem dX12_isLineText_20 : decode cX12_isLineText 20 = .ok (.aload_n 0, 1) := by decide +kernel
theorem dX12_isLineText_21 : decode cX12_isLineText 21 = .ok (.getfield 194, 3) := by decide +kernel
theorem dX12_isLineText_24 : decode cX12_isLineText 24 = .ok (.iaload, 1) := by decide +kernel
theorem dX12_isLineText_25 : decode cX12_isLineText 25 = .ok (.bipush 32, 2) := by decide +kernel
theorem dX12_isLineText_27 : decode cX12_isLineText 27 = .ok (.if_icmp .ne 16, 3) := by decide +kernel
theorem dX12_isLineText_30 : decode cX12_isLineText 30 = .ok (.aload_n 0, 1) := by decide +kernel
theorem dX12_isLineText_31 : decode cX12_isLineText 31 = .ok (.dup, 1) := by decide +kernel
theorem dX12_isLineText_32 : decode cX12_isLineText 32 = .ok (.getfield 194, 3) := by decide +kernel
theorem dX12_isLineText_35 : decode cX12_isLineText 35 = .ok (.iconst 1, 1) := by decide +kernel
theorem dX12_isLineText_36 : decode cX12_isLineText 36 = .ok (.iadd, 1) := by decide +kernel
theorem dX12_isLineText_37 : decode cX12_isLineText 37 = .ok (.putfield 194, 3) := by decide +kernel
theorem dX12_isLineText_40 : decode cX12_isLineText 40 = .ok (.goto (-35), 3) := by decide +kernel
theorem dX12_isLineText_43 : decode cX12_isLineText 43 = .ok (.aload_n 0, 1) := by decide +kernel
theorem dX12_isLineText_44 : decode cX12_isLineText 44 = .ok (.aload_n 0, 1) := by decide +kernel
theorem dX12_isLineText_45 : decode cX12_isLineText 45 = .ok (.getfield 191, 3) := by decide +kernel
theorem dX12_isLineText_48 : decode cX12_isLineText 48 = .ok (.putfield 197, 3) := by decide +kernel
theorem dX12_isLineText_51 : decode cX12_isLineText 51 = .ok (.aload_n 0, 1) := by decide +kernel
theorem dX12_isLineText_52 : decode cX12_isLineText 52 = .ok (.getfield 197, 3) := by decide +kernel
theorem dX12_isLineText_55 : decode cX12_isLineText 55 = .ok (.aload_n 0, 1) := by decide +kernel
theorem dX12_isLineText_56 : decode cX12_isLineText 56 = .ok (.getfield 194, 3) := by decide +kernel
theorem dX12_isLineText_59 : decode cX12_isLineText 59 = .ok (.if_icmp .le 32, 3) := by decide +kernel
theorem dX12_isLineText_62 : decode cX12_isLineText 62 = .ok (.aload_n 0, 1) := by decide +kernel
theorem dX12_isLineText_63 : decode cX12_isLineText 63 = .ok (.getfield 17, 3) := by decide +kernel
theorem dX12_isLineText_66 : decode cX12_isLineText 66 = .ok (.aload_n 0, 1) := by decide +kernel
theorem dX12_isLineText_67 : decode cX12_isLineText 67 = .ok (.getfield 197, 3) := by decide +kernel
theorem dX12_isLineText_70 : decode cX12_isLineText 70 = .ok (.iconst 1, 1) := by decide +kernel
theorem dX12_isLineText_71 : decode cX12_isLineText 71 = .ok (.isub, 1) := by decide +kernel
theorem dX12_isLineText_72 : decode cX12_isLineText 72 = .ok (.iaload, 1) := by decide +kernel
theorem dX12_isLineText_73 : decode cX12_isLineText 73 = .ok (.bipush 32, 2) := by decide +kernel
theorem dX12_isLineText_75 : decode cX12_isLineText 75 = .ok (.if_icmp .ne 16, 3) := by decide +kernel
theorem dX12_isLineText_78 : decode cX12_isLineText 78 = .ok (.aload_n 0, 1) := by decide +kernel
theorem dX12_isLineText_79 : decode cX12_isLineText 79 = .ok (.dup, 1) := by decide +kernel
theorem dX12_isLineText_80 : decode cX12_isLineText 80 = .ok (.getfield 197, 3) := by decide +kernel
theorem dX12_isLineText_83 : decode cX12_isLineText 83 = .ok (.iconst 1, 1) := by decide +kernel
theorem dX12_isLineText_84 : decode cX12_isLineText 84 = .ok (.isub, 1) := by decide +kernel
theorem dX12_isLineText_85 : decode cX12_isLineText 85 = .ok (.putfield 197, 3) := by decide +kernel
theorem dX12_isLineText_88 : decode cX12_isLineText 88 = .ok (.goto (-37), 3) := by decide +kernel
theorem dX12_isLineText_91 : decode cX12_isLineText 91 = .ok (.aload_n 0, 1) := by decide +kernel
theorem dX12_isLineText_92 : decode cX12_isLineText 92 = .ok (.getfield 197, 3) := by decide +kernel
theorem dX12_isLineText_95 : decode cX12_isLineText 95 = .ok (.aload_n 0, 1) := by decide +kernel
theorem dX12_isLineText_96 : decode cX12_isLineText 96 = .ok (.getfield 194, 3) := by decide +kernel
theorem dX12_isLineText_99 : decode cX12_isLineText 99 = .ok (.if_icmp .eq 26, 3) := by decide +kernel
theorem dX12_isLineText_102 : decode cX12_isLineText 102 = .ok (.aload_n 0, 1) := by decide +kernel
theorem dX12_isLineText_103 : decode cX12_isLineText 103 = .ok (.getfield 194, 3) := by decide +kernel
theorem dX12_isLineText_106 : decode cX12_isLineText 106 = .ok (.bipush 40, 2) := by decide +kernel
theorem dX12_isLineText_108 : decode cX12_isLineText 108 = .ok (.if_icmp .gt 21, 3) := by decide +kernel
theorem dX12_isLineText_111 : decode cX12_isLineText 111 = .ok (.aload_n 0, 1) := by decide +kernel
theorem dX12_isLineText_112 : decode cX12_isLineText 112 = .ok (.getfield 197, 3) := by decide +kernel
theorem dX12_isLineText_115 : decode cX12_isLineText 115 = .ok (.aload_n 0, 1) := by decide +kernel
theorem dX12_isLineText_116 : decode cX12_isLineText 116 = .ok (.getfield 194, 3) := by decide +kernel
theorem dX12_isLineText_119 : decode cX12_isLineText 119 = .ok (.isub, 1) := by decide +kernel
theorem dX12_isLineText_120 : decode cX12_isLineText 120 = .ok (.bipush 32, 2) := by decide +kernel
theorem dX12_isLineText_122 : decode cX12_isLineText 122 = .ok (.if_icmp .gt 7, 3) := by decide +kernel
theorem dX12_isLineText_125 : decode cX12_isLineText 125 = .ok (.iconst 1, 1) := by decide +kernel
theorem dX12_isLineText_126 : decode cX12_isLineText 126 = .ok (.goto 4, 3) := by decide +kernel
theorem dX12_isLineText_129 : decode cX12_isLineText 129 = .ok (.iconst 0, 1) := by decide +kernel
theorem dX12_isLineText_130 : decode cX12_isLineText 130 = .ok (.ireturn, 1) := by decide +kernel
theorem dX12_writes_0 : decode cX12_writes 0 = .ok (.aload_n 0, 1) := by decide +kernel
theorem dX12_writes_1 : decode cX12_writes 1 = .ok (.getfield 7, 3) := by decide +kernel
theorem dX12_writes_4 : decode cX12_writes 4 = .ok (.bipush 21, 2) := by decide +kernel
theorem dX12_writes_6 : decode cX12_writes 6 = .ok (.iload_n 1, 1) := by decide +kernel
theorem dX12_writes_7 : decode cX12_writes 7 = .ok (.iadd, 1) := by decide +kernel
theorem dX12_writes_8 : decode cX12_writes 8 = .ok (.aload_n 0, 1) := by decide +kernel
theorem dX12_writes_9 : decode cX12_writes 9 = .ok (.getfield 197, 3) := by decide +kernel
theorem dX12_writes_12 : decode cX12_writes 12 = .ok (.aload_n 0, 1) := by decide +kernel
theorem dX12_writes_13 : decode cX12_writes 13 = .ok (.getfield 194, 3) := by decide +kernel
theorem dX12_writes_16 : decode cX12_writes 16 = .ok (.isub, 1) := by decide +kernel
theorem dX12_writes_17 : decode cX12_writes 17 = .ok (.iastore, 1) := by decide +kernel
theorem dX12_writes_18 : decode cX12_writes 18 = .ok (.aload_n 0, 1) := by decide +kernel
theorem dX12_writes_19 : decode cX12_writes 19 = .ok (.getfield 7, 3) := by decide +kernel
theorem dX12_writes_22 : decode cX12_writes 22 = .ok (.iconst 1, 1) := by decide +kernel
theorem dX12_writes_23 : decode cX12_writes 23 = .ok (.iload_n 1, 1) := by decide +kernel
theorem dX12_writes_24 : decode cX12_writes 24 = .ok (.iadd, 1) := by decide +kernel
theorem dX12_writes_25 : decode cX12_writes 25 = .ok (.aload_n 0, 1) := by decide +kernel
theorem dX12_writes_26 : decode cX12_writes 26 = .ok (.getfield 197, 3) := by decide +kernel
theorem dX12_writes_29 : decode cX12_writes 29 = .ok (.aload_n 0, 1) := by decide +kernel
theorem dX12_writes_30 : decode cX12_writes 30 = .ok (.getfield 194, 3) := by decide +kernel
theorem dX12_writes_33 : decode cX12_writes 33 = .ok (.if_icmp .ne 7, 3) := by decide +kernel
theorem dX12_writes_36 : decode cX12_writes 36 = .ok (.iconst 0, 1) := by decide +kernel
theorem dX12_writes_37 : decode cX12_writes 37 = .ok (.goto 7, 3) := by decide +kernel
theorem dX12_writes_40 : decode cX12_writes 40 = .ok (.aload_n 0, 1) := by decide +kernel
theorem dX12_writes_41 : decode cX12_writes 41 = .ok (.getfield 194, 3) := by decide +kernel
theorem dX12_writes_44 : decode cX12_writes 44 = .ok (.iastore, 1) := by decide +kernel
theorem dX12_writes_45 : decode cX12_writes 45 = .ok (.iconst 0, 1) := by decide +kernel
theorem dX12_writes_46 : decode cX12_writes 46 = .ok (.istore_n 2, 1) := by decide +kernel
theorem dX12_writes_47 : decode cX12_writes 47 = .ok (.iload_n 2, 1) := by decide +kernel
theorem dX12_writes_48 : decode cX12_writes 48 = .ok (.aload_n 0, 1) := by decide +kernel
theorem dX12_writes_49 : decode cX12_writes 49 = .ok (.getfield 197, 3) := by decide +kernel
theorem dX12_writes_52 : decode cX12_writes 52 = .ok (.aload_n 0, 1) := by decide +kernel
theorem dX12_writes_53 : decode cX12_writes 53 = .ok (.getfield 194, 3) := by decide +kernel
theorem dX12_writes_56 : decode cX12_writes 56 = .ok (.isub, 1) := by decide +kernel
theorem dX12_writes_57 : decode cX12_writes 57 = .ok (.if_icmp .ge 34, 3) := by decide +kernel
theorem dX12_writes_60 : decode cX12_writes 60 = .ok (.aload_n 0, 1) := by decide +kernel
theorem dX12_writes_61 : decode cX12_writes 61 = .ok (.getfield 7, 3) := by decide +kernel
theorem dX12_writes_64 : decode cX12_writes 64 = .ok (.bipush 61, 2) := by decide +kernel
theorem dX12_writes_66 : decode cX12_writes 66 = .ok (.bipush 32, 2) := by decide +kernel
theorem dX12_writes_68 : decode cX12_writes 68 = .ok (.iload_n 1, 1) := by decide +kernel
theorem dX12_writes_69 : decode cX12_writes 69 = .ok (.imul, 1) := by decide +kernel
theorem dX12_writes_70 : decode cX12_writes 70 = .ok (.iadd, 1) := by decide +kernel
theorem dX12_writes_71 : decode cX12_writes 71 = .ok (.iload_n 2, 1) := by decide +kernel
theorem dX12_writes_72 : decode cX12_writes 72 = .ok (.iadd, 1) := by decide +kernel
theorem dX12_writes_73 : decode cX12_writes 73 = .ok (.aload_n 0, 1) := by decide +kernel
theorem dX12_writes_74 : decode cX12_writes 74 = .ok (.getfield 17, 3) := by decide +kernel
theorem dX12_writes_77 : decode cX12_writes 77 = .ok (.aload_n 0, 1) := by decide +kernel
theorem dX12_writes_78 : decode cX12_writes 78 = .ok (.getfield 194, 3) := by decide +kernel
theorem dX12_writes_81 : decode cX12_writes 81 = .ok (.iload_n 2, 1) := by decide +kernel
theorem dX12_writes_82 : decode cX12_writes 82 = .ok (.iadd, 1) := by decide +kernel
theorem dX12_writes_83 : decode cX12_writes 83 = .ok (.iaload, 1) := by decide +kernel
theorem dX12_writes_84 : decode cX12_writes 84 = .ok (.iastore, 1) := by decide +kernel
theorem dX12_writes_85 : decode cX12_writes 85 = .ok (.iinc 2 1, 3) := by decide +kernel
theorem dX12_writes_88 : decode cX12_writes 88 = .ok (.goto (-41), 3) := by decide +kernel
theorem dX12_writes_91 : decode cX12_writes 91 = .ok (.return_, 1) := by decide +kernel
theorem dX12_copiesLine_0 : decode cX12_copiesLine 0 = .ok (.aload_n 0, 1) := by decide +kernel
theorem dX12_copiesLine_1 : decode cX12_copiesLine 1 = .ok (.getfield 7, 3) := by decide +kernel
theorem dX12_copiesLine_4 : decode cX12_copiesLine 4 = .ok (.iconst 1, 1) := by decide +kernel
theorem dX12_copiesLine_5 : decode cX12_copiesLine 5 = .ok (.iload_n 2, 1) := by decide +kernel
theorem dX12_copiesLine_6 : decode cX12_copiesLine 6 = .ok (.iadd, 1) := by decide +kernel
theorem dX12_copiesLine_7 : decode cX12_copiesLine 7 = .ok (.aload_n 0, 1) := by decide +kernel
theorem dX12_copiesLine_8 : decode cX12_copiesLine 8 = .ok (.getfield 7, 3) := by decide +kernel
theorem dX12_copiesLine_11 : decode cX12_copiesLine 11 = .ok (.iconst 1, 1) := by decide +kernel
theorem dX12_copiesLine_12 : decode cX12_copiesLine 12 = .ok (.iload_n 1, 1) := by decide +kernel
theorem dX12_copiesLine_13 : decode cX12_copiesLine 13 = .ok (.iadd, 1) := by decide +kernel
theorem dX12_copiesLine_14 : decode cX12_copiesLine 14 = .ok (.iaload, 1) := by decide +kernel
theorem dX12_copiesLine_15 : decode cX12_copiesLine 15 = .ok (.iastore, 1) := by decide +kernel
theorem dX12_copiesLine_16 : decode cX12_copiesLine 16 = .ok (.aload_n 0, 1) := by decide +kernel
theorem dX12_copiesLine_17 : decode cX12_copiesLine 17 = .ok (.getfield 7, 3) := by decide +kernel
theorem dX12_copiesLine_20 : decode cX12_copiesLine 20 = .ok (.bipush 21, 2) := by decide +kernel
theorem dX12_copiesLine_22 : decode cX12_copiesLine 22 = .ok (.iload_n 2, 1) := by decide +kernel
theorem dX12_copiesLine_23 : decode cX12_copiesLine 23 = .ok (.iadd, 1) := by decide +kernel
theorem dX12_copiesLine_24 : decode cX12_copiesLine 24 = .ok (.aload_n 0, 1) := by decide +kernel
theorem dX12_copiesLine_25 : decode cX12_copiesLine 25 = .ok (.getfield 7, 3) := by decide +kernel
theorem dX12_copiesLine_28 : decode cX12_copiesLine 28 = .ok (.bipush 21, 2) := by decide +kernel
theorem dX12_copiesLine_30 : decode cX12_copiesLine 30 = .ok (.iload_n 1, 1) := by decide +kernel
theorem dX12_copiesLine_31 : decode cX12_copiesLine 31 = .ok (.iadd, 1) := by decide +kernel
theorem dX12_copiesLine_32 : decode cX12_copiesLine 32 = .ok (.iaload, 1) := by decide +kernel
theorem dX12_copiesLine_33 : decode cX12_copiesLine 33 = .ok (.iastore, 1) := by decide +kernel
theorem dX12_copiesLine_34 : decode cX12_copiesLine 34 = .ok (.aload_n 0, 1) := by decide +kernel
theorem dX12_copiesLine_35 : decode cX12_copiesLine 35 = .ok (.getfield 7, 3) := by decide +kernel
theorem dX12_copiesLine_38 : decode cX12_copiesLine 38 = .ok (.bipush 41, 2) := by decide +kernel
theorem dX12_copiesLine_40 : decode cX12_copiesLine 40 = .ok (.iload_n 2, 1) := by decide +kernel
theorem dX12_copiesLine_41 : decode cX12_copiesLine 41 = .ok (.iadd, 1) := by decide +kernel
theorem dX12_copiesLine_42 : decode cX12_copiesLine 42 = .ok (.aload_n 0, 1) := by decide +kernel
theorem dX12_copiesLine_43 : decode cX12_copiesLine 43 = .ok (.getfield 7, 3) := by decide +kernel
theorem dX12_copiesLine_46 : decode cX12_copiesLine 46 = .ok (.bipush 41, 2) := by decide +kernel
theorem dX12_copiesLine_48 : decode cX12_copiesLine 48 = .ok (.iload_n 1, 1) := by decide +kernel
theorem dX12_copiesLine_49 : decode cX12_copiesLine 49 = .ok (.iadd, 1) := by decide +kernel
theorem dX12_copiesLine_50 : decode cX12_copiesLine 50 = .ok (.iaload, 1) := by decide +kernel
theorem dX12_copiesLine_51 : decode cX12_copiesLine 51 = .ok (.iastore, 1) := by decide +kernel
theorem dX12_copiesLine_52 : decode cX12_copiesLine 52 = .ok (.iconst 0, 1) := by decide +kernel
theorem dX12_copiesLine_53 : decode cX12_copiesLine 53 = .ok (.istore_n 3, 1) := by decide +kernel
theorem dX12_copiesLine_54 : decode cX12_copiesLine 54 = .ok (.iload_n 3, 1) := by decide +kernel
theorem dX12_copiesLine_55 : decode cX12_copiesLine 55 = .ok (.bipush 32, 2) := by decide +kernel
theorem dX12_copiesLine_57 : decode cX12_copiesLine 57 = .ok (.if_icmp .ge 37, 3) := by decide +kernel
theorem dX12_copiesLine_60 : decode cX12_copiesLine 60 = .ok (.aload_n 0, 1) := by decide +kernel
theorem dX12_copiesLine_61 : decode cX12_copiesLine 61 = .ok (.getfield 7, 3) := by decide +kernel
theorem dX12_copiesLine_64 : decode cX12_copiesLine 64 = .ok (.bipush 61, 2) := by decide +kernel
theorem dX12_copiesLine_66 : decode cX12_copiesLine 66 = .ok (.bipush 32, 2) := by decide +kernel
theorem dX12_copiesLine_68 : decode cX12_copiesLine 68 = .ok (.iload_n 2, 1) := by decide +kernel
theorem dX12_copiesLine_69 : decode cX12_copiesLine 69 = .ok (.imul, 1) := by decide +kernel
theorem dX12_copiesLine_70 : decode cX12_copiesLine 70 = .ok (.iadd, 1) := by decide +kernel
theorem dX12_copiesLine_71 : decode cX12_copiesLine 71 = .ok (.iload_n 3, 1) := by decide +kernel
theorem dX12_copiesLine_72 : decode cX12_copiesLine 72 = .ok (.iadd, 1) := by decide +kernel
theorem dX12_copiesLine_73 : decode cX12_copiesLine 73 = .ok (.aload_n 0, 1) := by decide +kernel
theorem dX12_copiesLine_74 : decode cX12_copiesLine 74 = .ok (.getfield 7, 3) := by decide +kernel
theorem dX12_copiesLine_77 : decode cX12_copiesLine 77 = .ok (.bipush 61, 2) := by decide +kernel
theorem dX12_copiesLine_79 : decode cX12_copiesLine 79 = .ok (.bipush 32, 2) := by decide +kernel
theorem dX12_copiesLine_81 : decode cX12_copiesLine 81 = .ok (.iload_n 1, 1) := by decide +kernel
theorem dX12_copiesLine_82 : decode cX12_copiesLine 82 = .ok (.imul, 1) := by decide +kernel
theorem dX12_copiesLine_83 : decode cX12_copiesLine 83 = .ok (.iadd, 1) := by decide +kernel
theorem dX12_copiesLine_84 : decode cX12_copiesLine 84 = .ok (.iload_n 3, 1) := by decide +kernel
theorem dX12_copiesLine_85 : decode cX12_copiesLine 85 = .ok (.iadd, 1) := by decide +kernel
theorem dX12_copiesLine_86 : decode cX12_copiesLine 86 = .ok (.iaload, 1) := by decide +kernel
theorem dX12_copiesLine_87 : decode cX12_copiesLine 87 = .ok (.iastore, 1) := by decide +kernel
theorem dX12_copiesLine_88 : decode cX12_copiesLine 88 = .ok (.iinc 3 1, 3) := by decide +kernel
theorem dX12_copiesLine_91 : decode cX12_copiesLine 91 = .ok (.goto (-37), 3) := by decide +kernel
theorem dX12_copiesLine_94 : decode cX12_copiesLine 94 = .ok (.return_, 1) := by decide +kernel
theorem dX12_parts_0 : decode cX12_parts 0 = .ok (.aload_n 0, 1) := by decide +kernel
theorem dX12_parts_1 : decode cX12_parts 1 = .ok (.getfield 7, 3) := by decide +kernel
theorem dX12_parts_4 : decode cX12_parts 4 = .ok (.iconst 0, 1) := by decide +kernel
theorem dX12_parts_5 : decode cX12_parts 5 = .ok (.iaload, 1) := by decide +kernel
theorem dX12_parts_6 : decode cX12_parts 6 = .ok (.istore_n 2, 1) := by decide +kernel
theorem dX12_parts_7 : decode cX12_parts 7 = .ok (.iload_n 2, 1) := by decide +kernel
theorem dX12_parts_8 : decode cX12_parts 8 = .ok (.iload_n 1, 1) := by decide +kernel
theorem dX12_parts_9 : decode cX12_parts 9 = .ok (.if_icmp .le 17, 3) := by decide +kernel
theorem dX12_parts_12 : decode cX12_parts 12 = .ok (.aload_n 0, 1) := by decide +kernel
theorem dX12_parts_13 : decode cX12_parts 13 = .ok (.iload_n 2, 1) := by decide +kernel
theorem dX12_parts_14 : decode cX12_parts 14 = .ok (.iconst 1, 1) := by decide +kernel
theorem dX12_parts_15 : decode cX12_parts 15 = .ok (.isub, 1) := by decide +kernel
theorem dX12_parts_16 : decode cX12_parts 16 = .ok (.iload_n 2, 1) := by decide +kernel
theorem dX12_parts_17 : decode cX12_parts 17 = .ok (.invokevirtual 200, 3) := by decide +kernel
theorem dX12_parts_20 : decode cX12_parts 20 = .ok (.iinc 2 (-1), 3) := by decide +kernel
theorem dX12_parts_23 : decode cX12_parts 23 = .ok (.goto (-16), 3) := by decide +kernel
theorem dX12_parts_26 : decode cX12_parts 26 = .ok (.aload_n 0, 1) := by decide +kernel
theorem dX12_parts_27 : decode cX12_parts 27 = .ok (.getfield 7, 3) := by decide +kernel
theorem dX12_parts_30 : decode cX12_parts 30 = .ok (.iconst 0, 1) := by decide +kernel
theorem dX12_parts_31 : decode cX12_parts 31 = .ok (.dup2, 1) := by decide +kernel
theorem dX12_parts_32 : decode cX12_parts 32 = .ok (.iaload, 1) := by decide +kernel
theorem dX12_parts_33 : decode cX12_parts 33 = .ok (.iconst 1, 1) := by decide +kernel
theorem dX12_parts_34 : decode cX12_parts 34 = .ok (.iadd, 1) := by decide +kernel
theorem dX12_parts_35 : decode cX12_parts 35 = .ok (.iastore, 1) := by decide +kernel
theorem dX12_parts_36 : decode cX12_parts 36 = .ok (.aload_n 0, 1) := by decide +kernel
theorem dX12_parts_37 : decode cX12_parts 37 = .ok (.getfield 7, 3) := by decide +kernel
theorem dX12_parts_40 : decode cX12_parts 40 = .ok (.bipush 41, 2) := by decide +kernel
theorem dX12_parts_42 : decode cX12_parts 42 = .ok (.iload_n 1, 1) := by decide +kernel
theorem dX12_parts_43 : decode cX12_parts 43 = .ok (.iadd, 1) := by decide +kernel
theorem dX12_parts_44 : decode cX12_parts 44 = .ok (.iconst 0, 1) := by decide +kernel
theorem dX12_parts_45 : decode cX12_parts 45 = .ok (.iastore, 1) := by decide +kernel
theorem dX12_parts_46 : decode cX12_parts 46 = .ok (.return_, 1) := by decide +kernel
theorem dX12_drops_0 : decode cX12_drops 0 = .ok (.iload_n 1, 1) := by decide +kernel
theorem dX12_drops_1 : decode cX12_drops 1 = .ok (.istore_n 2, 1) := by decide +kernel
theorem dX12_drops_2 : decode cX12_drops 2 = .ok (.iload_n 2, 1) := by decide +kernel
theorem dX12_drops_3 : decode cX12_drops 3 = .ok (.iconst 1, 1) := by decide +kernel
theorem dX12_drops_4 : decode cX12_drops 4 = .ok (.iadd, 1) := by decide +kernel
theorem dX12_drops_5 : decode cX12_drops 5 = .ok (.aload_n 0, 1) := by decide +kernel
theorem dX12_drops_6 : decode cX12_drops 6 = .ok (.getfield 7, 3) := by decide +kernel
theorem dX12_drops_9 : decode cX12_drops 9 = .ok (.iconst 0, 1) := by decide +kernel
theorem dX12_drops_10 : decode cX12_drops 10 = .ok (.iaload, 1) := by decide +kernel
theorem dX12_drops_11 : decode cX12_drops 11 = .ok (.if_icmp .ge 17, 3) := by decide +kernel
theorem dX12_drops_14 : decode cX12_drops 14 = .ok (.aload_n 0, 1) := by decide +kernel
theorem dX12_drops_15 : decode cX12_drops 15 = .ok (.iload_n 2, 1) := by decide +kernel
theorem dX12_drops_16 : decode cX12_drops 16 = .ok (.iconst 1, 1) := by decide +kernel
theorem dX12_drops_17 : decode cX12_drops 17 = .ok (.iadd, 1) := by decide +kernel
theorem dX12_drops_18 : decode cX12_drops 18 = .ok (.iload_n 2, 1) := by decide +kernel
theorem dX12_drops_19 : decode cX12_drops 19 = .ok (.invokevirtual 200, 3) := by decide +kernel
theorem dX12_drops_22 : decode cX12_drops 22 = .ok (.iinc 2 1, 3) := by decide +kernel
theorem dX12_drops_25 : decode cX12_drops 25 = .ok (.goto (-23), 3) := by decide +kernel
theorem dX12_drops_28 : decode cX12_drops 28 = .ok (.aload_n 0, 1) := by decide +kernel
theorem dX12_drops_29 : decode cX12_drops 29 = .ok (.getfield 7, 3) := by decide +kernel
theorem dX12_drops_32 : decode cX12_drops 32 = .ok (.iconst 0, 1) := by decide +kernel
theorem dX12_drops_33 : decode cX12_drops 33 = .ok (.dup2, 1) := by decide +kernel
theorem dX12_drops_34 : decode cX12_drops 34 = .ok (.iaload, 1) := by decide +kernel
theorem dX12_drops_35 : decode cX12_drops 35 = .ok (.iconst 1, 1) := by decide +kernel
theorem dX12_drops_36 : decode cX12_drops 36 = .ok (.isub, 1) := by decide +kernel
theorem dX12_drops_37 : decode cX12_drops 37 = .ok (.iastore, 1) := by decide +kernel
theorem dX12_drops_38 : decode cX12_drops 38 = .ok (.return_, 1) := by decide +kernel
theorem dX12_insertLine_0 : decode cX12_insertLine 0 = .ok (.iload_n 1, 1) := by decide +kernel
theorem dX12_insertLine_1 : decode cX12_insertLine 1 = .ok (.iconst 0, 1) := by decide +kernel
theorem dX12_insertLine_2 : decode cX12_insertLine 2 = .ok (.aload_n 0, 1) := by decide +kernel
theorem dX12_insertLine_3 : decode cX12_insertLine 3 = .ok (.getfield 7, 3) := by decide +kernel
theorem dX12_insertLine_6 : decode cX12_insertLine 6 = .ok (.iconst 0, 1) := by decide +kernel
theorem dX12_insertLine_7 : decode cX12_insertLine 7 = .ok (.iaload, 1) := by decide +kernel
theorem dX12_insertLine_8 : decode cX12_insertLine 8 = .ok (.invokestatic 79, 3) := by decide +kernel
theorem dX12_insertLine_11 : decode cX12_insertLine 11 = .ok (.ifCond .ne 5, 3) := by decide +kernel
theorem dX12_insertLine_14 : decode cX12_insertLine 14 = .ok (.iconst (-1), 1) := by decide +kernel
theorem dX12_insertLine_15 : decode cX12_insertLine 15 = .ok (.ireturn, 1) := by decide +kernel
theorem dX12_insertLine_16 : decode cX12_insertLine 16 = .ok (.aload_n 0, 1) := by decide +kernel
theorem dX12_insertLine_17 : decode cX12_insertLine 17 = .ok (.getfield 7, 3) := by decide +kernel
theorem dX12_insertLine_20 : decode cX12_insertLine 20 = .ok (.iconst 0, 1) := by decide +kernel
theorem dX12_insertLine_21 : decode cX12_insertLine 21 = .ok (.iaload, 1) := by decide +kernel
theorem dX12_insertLine_22 : decode cX12_insertLine 22 = .ok (.bipush 20, 2) := by decide +kernel
theorem dX12_insertLine_24 : decode cX12_insertLine 24 = .ok (.if_icmp .eq 10, 3) := by decide +kernel
theorem dX12_insertLine_27 : decode cX12_insertLine 27 = .ok (.aload_n 0, 1) := by decide +kernel
theorem dX12_insertLine_28 : decode cX12_insertLine 28 = .ok (.invokevirtual 203, 3) := by decide +kernel
theorem dX12_insertLine_31 : decode cX12_insertLine 31 = .ok (.ifCond .ne 6, 3) := by decide +kernel
theorem dX12_insertLine_34 : decode cX12_insertLine 34 = .ok (.bipush (-3), 2) := by decide +kernel
theorem dX12_insertLine_36 : decode cX12_insertLine 36 = .ok (.ireturn, 1) := by decide +kernel
theorem dX12_insertLine_37 : decode cX12_insertLine 37 = .ok (.aload_n 0, 1) := by decide +kernel
theorem dX12_insertLine_38 : decode cX12_insertLine 38 = .ok (.invokevirtual 207, 3) := by decide +kernel
theorem dX12_insertLine_41 : decode cX12_insertLine 41 = .ok (.aload_n 0, 1) := by decide +kernel
theorem dX12_insertLine_42 : decode cX12_insertLine 42 = .ok (.iload_n 1, 1) := by decide +kernel
theorem dX12_insertLine_43 : decode cX12_insertLine 43 = .ok (.invokevirtual 210, 3) := by decide +kernel
theorem dX12_insertLine_46 : decode cX12_insertLine 46 = .ok (.aload_n 0, 1) := by decide +kernel
theorem dX12_insertLine_47 : decode cX12_insertLine 47 = .ok (.iload_n 1, 1) := by decide +kernel
theorem dX12_insertLine_48 : decode cX12_insertLine 48 = .ok (.invokevirtual 213, 3) := by decide +kernel
theorem dX12_insertLine_51 : decode cX12_insertLine 51 = .ok (.aload_n 0, 1) := by decide +kernel
theorem dX12_insertLine_52 : decode cX12_insertLine 52 = .ok (.getfield 7, 3) := by decide +kernel
theorem dX12_insertLine_55 : decode cX12_insertLine 55 = .ok (.iconst 0, 1) := by decide +kernel
theorem dX12_insertLine_56 : decode cX12_insertLine 56 = .ok (.iaload, 1) := by decide +kernel
theorem dX12_insertLine_57 : decode cX12_insertLine 57 = .ok (.ireturn, 1) := by decide +kernel
theorem dX12_replaceLine_0 : decode cX12_replaceLine 0 = .ok (.aload_n 0, 1) := by decide +kernel
theorem dX12_replaceLine_1 : decode cX12_replaceLine 1 = .ok (.iload_n 1, 1) := by decide +kernel
theorem dX12_replaceLine_2 : decode cX12_replaceLine 2 = .ok (.invokevirtual 216, 3) := by decide +kernel
theorem dX12_replaceLine_5 : decode cX12_replaceLine 5 = .ok (.ifCond .ne 5, 3) := by decide +kernel
theorem dX12_replaceLine_8 : decode cX12_replaceLine 8 = .ok (.iconst (-1), 1) := by decide +kernel
theorem dX12_replaceLine_9 : decode cX12_replaceLine 9 = .ok (.ireturn, 1) := by decide +kernel
theorem dX12_replaceLine_10 : decode cX12_replaceLine 10 = .ok (.aload_n 0, 1) := by decide +kernel
theorem dX12_replaceLine_11 : decode cX12_replaceLine 11 = .ok (.invokevirtual 203, 3) := by decide +kernel
theorem dX12_replaceLine_14 : decode cX12_replaceLine 14 = .ok (.ifCond .ne 6, 3) := by decide +kernel
theorem dX12_replaceLine_17 : decode cX12_replaceLine 17 = .ok (.bipush (-3), 2) := by decide +kernel
theorem dX12_replaceLine_19 : decode cX12_replaceLine 19 = .ok (.ireturn, 1) := by decide +kernel
theorem dX12_replaceLine_20 : decode cX12_replaceLine 20 = .ok (.aload_n 0, 1) := by decide +kernel
theorem dX12_replaceLine_21 : decode cX12_replaceLine 21 = .ok (.invokevirtual 207, 3) := by decide +kernel
theorem dX12_replaceLine_24 : decode cX12_replaceLine 24 = .ok (.aload_n 0, 1) := by decide +kernel
theorem dX12_replaceLine_25 : decode cX12_replaceLine 25 = .ok (.getfield 7, 3) := by decide +kernel
theorem dX12_replaceLine_28 : decode cX12_replaceLine 28 = .ok (.iconst 1, 1) := by decide +kernel
theorem dX12_replaceLine_29 : decode cX12_replaceLine 29 = .ok (.iload_n 1, 1) := by decide +kernel
theorem dX12_replaceLine_30 : decode cX12_replaceLine 30 = .ok (.iadd, 1) := by decide +kernel
theorem dX12_replaceLine_31 : decode cX12_replaceLine 31 = .ok (.iaload, 1) := by decide +kernel
theorem dX12_replaceLine_32 : decode cX12_replaceLine 32 = .ok (.istore_n 2, 1) := by decide +kernel
theorem dX12_replaceLine_33 : decode cX12_replaceLine 33 = .ok (.aload_n 0, 1) := by decide +kernel
theorem dX12_replaceLine_34 : decode cX12_replaceLine 34 = .ok (.iload_n 1, 1) := by decide +kernel
theorem dX12_replaceLine_35 : decode cX12_replaceLine 35 = .ok (.invokevirtual 213, 3) := by decide +kernel
theorem dX12_replaceLine_38 : decode cX12_replaceLine 38 = .ok (.iload_n 2, 1) := by decide +kernel
theorem dX12_replaceLine_39 : decode cX12_replaceLine 39 = .ok (.ireturn, 1) := by decide +kernel
theorem dX12_removeLine_0 : decode cX12_removeLine 0 = .ok (.aload_n 0, 1) := by decide +kernel
theorem dX12_removeLine_1 : decode cX12_removeLine 1 = .ok (.iload_n 1, 1) := by decide +kernel
theorem dX12_removeLine_2 : decode cX12_removeLine 2 = .ok (.invokevirtual 216, 3) := by decide +kernel
theorem dX12_removeLine_5 : decode cX12_removeLine 5 = .ok (.ifCond .ne 5, 3) := by decide +kernel
theorem dX12_removeLine_8 : decode cX12_removeLine 8 = .ok (.iconst (-1), 1) := by decide +kernel
theorem dX12_removeLine_9 : decode cX12_removeLine 9 = .ok (.ireturn, 1) := by decide +kernel
theorem dX12_removeLine_10 : decode cX12_removeLine 10 = .ok (.aload_n 0, 1) := by decide +kernel
theorem dX12_removeLine_11 : decode cX12_removeLine 11 = .ok (.invokevirtual 207, 3) := by decide +kernel
theorem dX12_removeLine_14 : decode cX12_removeLine 14 = .ok (.aload_n 0, 1) := by decide +kernel
theorem dX12_removeLine_15 : decode cX12_removeLine 15 = .ok (.iload_n 1, 1) := by decide +kernel
theorem dX12_removeLine_16 : decode cX12_removeLine 16 = .ok (.invokevirtual 219, 3) := by decide +kernel
theorem dX12_removeLine_19 : decode cX12_removeLine 19 = .ok (.aload_n 0, 1) := by decide +kernel
theorem dX12_removeLine_20 : decode cX12_removeLine 20 = .ok (.getfield 7, 3) := by decide +kernel
theorem dX12_removeLine_23 : decode cX12_removeLine 23 = .ok (.iconst 0, 1) := by decide +kernel
theorem dX12_removeLine_24 : decode cX12_removeLine 24 = .ok (.iaload, 1) := by decide +kernel
theorem dX12_removeLine_25 : decode cX12_removeLine 25 = .ok (.ireturn, 1) := by decide +kernel
theorem dX12_splitLine_0 : decode cX12_splitLine 0 = .ok (.aload_n 0, 1) := by decide +kernel
theorem dX12_splitLine_1 : decode cX12_splitLine 1 = .ok (.iload_n 1, 1) := by decide +kernel
theorem dX12_splitLine_2 : decode cX12_splitLine 2 = .ok (.invokevirtual 216, 3) := by decide +kernel
theorem dX12_splitLine_5 : decode cX12_splitLine 5 = .ok (.ifCond .eq 22, 3) := by decide +kernel
theorem dX12_splitLine_8 : decode cX12_splitLine 8 = .ok (.iload_n 2, 1) := by decide +kernel
theorem dX12_splitLine_9 : decode cX12_splitLine 9 = .ok (.iconst 1, 1) := by decide +kernel
theorem dX12_splitLine_10 : decode cX12_splitLine 10 = .ok (.aload_n 0, 1) := by decide +kernel
theorem dX12_splitLine_11 : decode cX12_splitLine 11 = .ok (.getfield 7, 3) := by decide +kernel
theorem dX12_splitLine_14 : decode cX12_splitLine 14 = .ok (.bipush 21, 2) := by decide +kernel
theorem dX12_splitLine_16 : decode cX12_splitLine 16 = .ok (.iload_n 1, 1) := by decide +kernel
theorem dX12_splitLine_17 : decode cX12_splitLine 17 = .ok (.iadd, 1) := by decide +kernel
theorem dX12_splitLine_18 : decode cX12_splitLine 18 = .ok (.iaload, 1) := by decide +kernel
theorem dX12_splitLine_19 : decode cX12_splitLine 19 = .ok (.iconst 1, 1) := by decide +kernel
theorem dX12_splitLine_20 : decode cX12_splitLine 20 = .ok (.isub, 1) := by decide +kernel
theorem dX12_splitLine_21 : decode cX12_splitLine 21 = .ok (.invokestatic 79, 3) := by decide +kernel
theorem dX12_splitLine_24 : decode cX12_splitLine 24 = .ok (.ifCond .ne 5, 3) := by decide +kernel
theorem dX12_splitLine_27 : decode cX12_splitLine 27 = .ok (.iconst (-1), 1) := by decide +kernel
theorem dX12_splitLine_28 : decode cX12_splitLine 28 = .ok (.ireturn, 1) := by decide +kernel
theorem dX12_splitLine_29 : decode cX12_splitLine 29 = .ok (.aload_n 0, 1) := by decide +kernel
theorem dX12_splitLine_30 : decode cX12_splitLine 30 = .ok (.getfield 7, 3) := by decide +kernel
theorem dX12_splitLine_33 : decode cX12_splitLine 33 = .ok (.iconst 0, 1) := by decide +kernel
theorem dX12_splitLine_34 : decode cX12_splitLine 34 = .ok (.iaload, 1) := by decide +kernel
theorem dX12_splitLine_35 : decode cX12_splitLine 35 = .ok (.bipush 20, 2) := by decide +kernel
theorem dX12_splitLine_37 : decode cX12_splitLine 37 = .ok (.if_icmp .ne 6, 3) := by decide +kernel
theorem dX12_splitLine_40 : decode cX12_splitLine 40 = .ok (.bipush (-3), 2) := by decide +kernel
theorem dX12_splitLine_42 : decode cX12_splitLine 42 = .ok (.ireturn, 1) := by decide +kernel
theorem dX12_splitLine_43 : decode cX12_splitLine 43 = .ok (.aload_n 0, 1) := by decide +kernel
theorem dX12_splitLine_44 : decode cX12_splitLine 44 = .ok (.invokevirtual 207, 3) := by decide +kernel
theorem dX12_splitLine_47 : decode cX12_splitLine 47 = .ok (.aload_n 0, 1) := by decide +kernel
theorem dX12_splitLine_48 : decode cX12_splitLine 48 = .ok (.iload_n 1, 1) := by decide +kernel
theorem dX12_splitLine_49 : decode cX12_splitLine 49 = .ok (.iconst 1, 1) := by decide +kernel
theorem dX12_splitLine_50 : decode cX12_splitLine 50 = .ok (.iadd, 1) := by decide +kernel
theorem dX12_splitLine_51 : decode cX12_splitLine 51 = .ok (.invokevirtual 210, 3) := by decide +kernel
theorem dX12_splitLine_54 : decode cX12_splitLine 54 = .ok (.iload_n 2, 1) := by decide +kernel
theorem dX12_splitLine_55 : decode cX12_splitLine 55 = .ok (.istore_n 3, 1) := by decide +kernel
theorem dX12_splitLine_56 : decode cX12_splitLine 56 = .ok (.aload_n 0, 1) := by decide +kernel
theorem dX12_splitLine_57 : decode cX12_splitLine 57 = .ok (.iload_n 1, 1) := by decide +kernel
theorem dX12_splitLine_58 : decode cX12_splitLine 58 = .ok (.iload_n 3, 1) := by decide +kernel
theorem dX12_splitLine_59 : decode cX12_splitLine 59 = .ok (.invokevirtual 83, 3) := by decide +kernel
theorem dX12_splitLine_62 : decode cX12_splitLine 62 = .ok (.bipush 32, 2) := by decide +kernel
theorem dX12_splitLine_64 : decode cX12_splitLine 64 = .ok (.if_icmp .ne 9, 3) := by decide +kernel
theorem dX12_splitLine_67 : decode cX12_splitLine 67 = .ok (.iinc 3 1, 3) := by decide +kernel
theorem dX12_splitLine_70 : decode cX12_splitLine 70 = .ok (.goto (-14), 3) := by decide +kernel
theorem dX12_splitLine_73 : decode cX12_splitLine 73 = .ok (.aload_n 0, 1) := by decide +kernel
theorem dX12_splitLine_74 : decode cX12_splitLine 74 = .ok (.getfield 7, 3) := by decide +kernel
theorem dX12_splitLine_77 : decode cX12_splitLine 77 = .ok (.bipush 21, 2) := by decide +kernel
theorem dX12_splitLine_79 : decode cX12_splitLine 79 = .ok (.iload_n 1, 1) := by decide +kernel
theorem dX12_splitLine_80 : decode cX12_splitLine 80 = .ok (.iadd, 1) := by decide +kernel
theorem dX12_splitLine_81 : decode cX12_splitLine 81 = .ok (.iaload, 1) := by decide +kernel
theorem dX12_splitLine_82 : decode cX12_splitLine 82 = .ok (.iload_n 3, 1) := by decide +kernel
theorem dX12_splitLine_83 : decode cX12_splitLine 83 = .ok (.isub, 1) := by decide +kernel
theorem dX12_splitLine_84 : decode cX12_splitLine 84 = .ok (.istore 4, 2) := by decide +kernel
theorem dX12_splitLine_86 : decode cX12_splitLine 86 = .ok (.iconst 0, 1) := by decide +kernel
theorem dX12_splitLine_87 : decode cX12_splitLine 87 = .ok (.istore 5, 2) := by decide +kernel
theorem dX12_splitLine_89 : decode cX12_splitLine 89 = .ok (.iload 5, 2) := by decide +kernel
theorem dX12_splitLine_91 : decode cX12_splitLine 91 = .ok (.iload 4, 2) := by decide +kernel
theorem dX12_splitLine_93 : decode cX12_splitLine 93 = .ok (.if_icmp .ge 43, 3) := by decide +kernel
theorem dX12_splitLine_96 : decode cX12_splitLine 96 = .ok (.aload_n 0, 1) := by decide +kernel
theorem dX12_splitLine_97 : decode cX12_splitLine 97 = .ok (.getfield 7, 3) := by decide +kernel
theorem dX12_splitLine_100 : decode cX12_splitLine 100 = .ok (.bipush 61, 2) := by decide +kernel
theorem dX12_splitLine_102 : decode cX12_splitLine 102 = .ok (.bipush 32, 2) := by decide +kernel
theorem dX12_splitLine_104 : decode cX12_splitLine 104 = .ok (.iload_n 1, 1) := by decide +kernel
theorem dX12_splitLine_105 : decode cX12_splitLine 105 = .ok (.iconst 1, 1) := by decide +kernel
theorem dX12_splitLine_106 : decode cX12_splitLine 106 = .ok (.iadd, 1) := by decide +kernel
theorem dX12_splitLine_107 : decode cX12_splitLine 107 = .ok (.imul, 1) := by decide +kernel
theorem dX12_splitLine_108 : decode cX12_splitLine 108 = .ok (.iadd, 1) := by decide +kernel
theorem dX12_splitLine_109 : decode cX12_splitLine 109 = .ok (.iload 5, 2) := by decide +kernel
theorem dX12_splitLine_111 : decode cX12_splitLine 111 = .ok (.iadd, 1) := by decide +kernel
theorem dX12_splitLine_112 : decode cX12_splitLine 112 = .ok (.aload_n 0, 1) := by decide +kernel
theorem dX12_splitLine_113 : decode cX12_splitLine 113 = .ok (.getfield 7, 3) := by decide +kernel
theorem dX12_splitLine_116 : decode cX12_splitLine 116 = .ok (.bipush 61, 2) := by decide +kernel
theorem dX12_splitLine_118 : decode cX12_splitLine 118 = .ok (.bipush 32, 2) := by decide +kernel
theorem dX12_splitLine_120 : decode cX12_splitLine 120 = .ok (.iload_n 1, 1) := by decide +kernel
theorem dX12_splitLine_121 : decode cX12_splitLine 121 = .ok (.imul, 1) := by decide +kernel
theorem dX12_splitLine_122 : decode cX12_splitLine 122 = .ok (.iadd, 1) := by decide +kernel
theorem dX12_splitLine_123 : decode cX12_splitLine 123 = .ok (.iload_n 3, 1) := by decide +kernel
theorem dX12_splitLine_124 : decode cX12_splitLine 124 = .ok (.iadd, 1) := by decide +kernel
theorem dX12_splitLine_125 : decode cX12_splitLine 125 = .ok (.iload 5, 2) := by decide +kernel

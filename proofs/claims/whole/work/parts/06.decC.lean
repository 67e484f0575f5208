theorem dX9_init_0 : decode cX9_init 0 = .ok (.aload_n 0, 1) := by decide +kernel
theorem dX9_init_1 : decode cX9_init 1 = .ok (.invokespecial 1, 3) := by decide +kernel
theorem dX9_init_4 : decode cX9_init 4 = .ok (.aload_n 0, 1) := by decide +kernel
theorem dX9_init_5 : decode cX9_init 5 = .ok (.iconst 4, 1) := by decide +kernel
theorem dX9_init_6 : decode cX9_init 6 = .ok (.newarray .int, 2) := by decide +kernel
theorem dX9_init_8 : decode cX9_init 8 = .ok (.putfield 9, 3) := by decide +kernel
theorem dX9_init_11 : decode cX9_init 11 = .ok (.aload_n 0, 1) := by decide +kernel
theorem dX9_init_12 : decode cX9_init 12 = .ok (.iconst 4, 1) := by decide +kernel
theorem dX9_init_13 : decode cX9_init 13 = .ok (.newarray .int, 2) := by decide +kernel
theorem dX9_init_15 : decode cX9_init 15 = .ok (.putfield 13, 3) := by decide +kernel
theorem dX9_init_18 : decode cX9_init 18 = .ok (.aload_n 0, 1) := by decide +kernel
theorem dX9_init_19 : decode cX9_init 19 = .ok (.bipush 10, 2) := by decide +kernel
theorem dX9_init_21 : decode cX9_init 21 = .ok (.newarray .int, 2) := by decide +kernel
theorem dX9_init_23 : decode cX9_init 23 = .ok (.putfield 16, 3) := by decide +kernel
theorem dX9_init_26 : decode cX9_init 26 = .ok (.aload_n 0, 1) := by decide +kernel
theorem dX9_init_27 : decode cX9_init 27 = .ok (.bipush 10, 2) := by decide +kernel
theorem dX9_init_29 : decode cX9_init 29 = .ok (.newarray .int, 2) := by decide +kernel
theorem dX9_init_31 : decode cX9_init 31 = .ok (.putfield 19, 3) := by decide +kernel
theorem dX9_init_34 : decode cX9_init 34 = .ok (.aload_n 0, 1) := by decide +kernel
theorem dX9_init_35 : decode cX9_init 35 = .ok (.bipush 10, 2) := by decide +kernel
theorem dX9_init_37 : decode cX9_init 37 = .ok (.newarray .int, 2) := by decide +kernel
theorem dX9_init_39 : decode cX9_init 39 = .ok (.putfield 22, 3) := by decide +kernel
theorem dX9_init_42 : decode cX9_init 42 = .ok (.aload_n 0, 1) := by decide +kernel
theorem dX9_init_43 : decode cX9_init 43 = .ok (.bipush 10, 2) := by decide +kernel
theorem dX9_init_45 : decode cX9_init 45 = .ok (.newarray .int, 2) := by decide +kernel
theorem dX9_init_47 : decode cX9_init 47 = .ok (.putfield 25, 3) := by decide +kernel
theorem dX9_init_50 : decode cX9_init 50 = .ok (.aload_n 0, 1) := by decide +kernel
theorem dX9_init_51 : decode cX9_init 51 = .ok (.bipush 10, 2) := by decide +kernel
theorem dX9_init_53 : decode cX9_init 53 = .ok (.newarray .int, 2) := by decide +kernel
theorem dX9_init_55 : decode cX9_init 55 = .ok (.putfield 28, 3) := by decide +kernel
theorem dX9_init_58 : decode cX9_init 58 = .ok (.aload_n 0, 1) := by decide +kernel
theorem dX9_init_59 : decode cX9_init 59 = .ok (.bipush 10, 2) := by decide +kernel
theorem dX9_init_61 : decode cX9_init 61 = .ok (.newarray .int, 2) := by decide +kernel
theorem dX9_init_63 : decode cX9_init 63 = .ok (.putfield 31, 3) := by decide +kernel
theorem dX9_init_66 : decode cX9_init 66 = .ok (.aload_n 0, 1) := by decide +kernel
theorem dX9_init_67 : decode cX9_init 67 = .ok (.bipush 10, 2) := by decide +kernel
theorem dX9_init_69 : decode cX9_init 69 = .ok (.newarray .int, 2) := by decide +kernel
theorem dX9_init_71 : decode cX9_init 71 = .ok (.putfield 34, 3) := by decide +kernel
theorem dX9_init_74 : decode cX9_init 74 = .ok (.aload_n 0, 1) := by decide +kernel
theorem dX9_init_75 : decode cX9_init 75 = .ok (.bipush 10, 2) := by decide +kernel
theorem dX9_init_77 : decode cX9_init 77 = .ok (.newarray .int, 2) := by decide +kernel
theorem dX9_init_79 : decode cX9_init 79 = .ok (.putfield 37, 3) := by decide +kernel
theorem dX9_init_82 : decode cX9_init 82 = .ok (.aload_n 0, 1) := by decide +kernel
theorem dX9_init_83 : decode cX9_init 83 = .ok (.bipush 24, 2) := by decide +kernel
theorem dX9_init_85 : decode cX9_init 85 = .ok (.newarray .int, 2) := by decide +kernel
theorem dX9_init_87 : decode cX9_init 87 = .ok (.putfield 40, 3) := by decide +kernel
theorem dX9_init_90 : decode cX9_init 90 = .ok (.aload_n 0, 1) := by decide +kernel
theorem dX9_init_91 : decode cX9_init 91 = .ok (.bipush 24, 2) := by decide +kernel
theorem dX9_init_93 : decode cX9_init 93 = .ok (.newarray .int, 2) := by decide +kernel
theorem dX9_init_95 : decode cX9_init 95 = .ok (.putfield 43, 3) := by decide +kernel
theorem dX9_init_98 : decode cX9_init 98 = .ok (.aload_n 0, 1) := by decide +kernel
theorem dX9_init_99 : decode cX9_init 99 = .ok (.bipush 24, 2) := by decide +kernel
theorem dX9_init_101 : decode cX9_init 101 = .ok (.newarray .int, 2) := by decide +kernel
theorem dX9_init_103 : decode cX9_init 103 = .ok (.putfield 46, 3) := by decide +kernel
theorem dX9_init_106 : decode cX9_init 106 = .ok (.aload_n 0, 1) := by decide +kernel
theorem dX9_init_107 : decode cX9_init 107 = .ok (.bipush 10, 2) := by decide +kernel
theorem dX9_init_109 : decode cX9_init 109 = .ok (.newarray .int, 2) := by decide +kernel
theorem dX9_init_111 : decode cX9_init 111 = .ok (.putfield 49, 3) := by decide +kernel
theorem dX9_init_114 : decode cX9_init 114 = .ok (.aload_n 0, 1) := by decide +kernel
theorem dX9_init_115 : decode cX9_init 115 = .ok (.bipush 10, 2) := by decide +kernel
theorem dX9_init_117 : decode cX9_init 117 = .ok (.newarray .int, 2) := by decide +kernel
theorem dX9_init_119 : decode cX9_init 119 = .ok (.putfield 52, 3) := by decide +kernel
theorem dX9_init_122 : decode cX9_init 122 = .ok (.aload_n 0, 1) := by decide +kernel
theorem dX9_init_123 : decode cX9_init 123 = .ok (.iconst 4, 1) := by decide +kernel
theorem dX9_init_124 : decode cX9_init 124 = .ok (.newarray .int, 2) := by decide +kernel
theorem dX9_init_126 : decode cX9_init 126 = .ok (.putfield 55, 3) := by decide +kernel
theorem dX9_init_129 : decode cX9_init 129 = .ok (.aload_n 0, 1) := by decide +kernel
theorem dX9_init_130 : decode cX9_init 130 = .ok (.bipush 40, 2) := by decide +kernel
theorem dX9_init_132 : decode cX9_init 132 = .ok (.newarray .int, 2) := by decide +kernel
theorem dX9_init_134 : decode cX9_init 134 = .ok (.putfield 58, 3) := by decide +kernel
theorem dX9_init_137 : decode cX9_init 137 = .ok (.aload_n 0, 1) := by decide +kernel
theorem dX9_init_138 : decode cX9_init 138 = .ok (.iconst 4, 1) := by decide +kernel
theorem dX9_init_139 : decode cX9_init 139 = .ok (.newarray .int, 2) := by decide +kernel
theorem dX9_init_141 : decode cX9_init 141 = .ok (.putfield 61, 3) := by decide +kernel
theorem dX9_init_144 : decode cX9_init 144 = .ok (.aload_n 0, 1) := by decide +kernel
theorem dX9_init_145 : decode cX9_init 145 = .ok (.iconst 4, 1) := by decide +kernel
theorem dX9_init_146 : decode cX9_init 146 = .ok (.newarray .int, 2) := by decide +kernel
theorem dX9_init_148 : decode cX9_init 148 = .ok (.putfield 64, 3) := by decide +kernel
theorem dX9_init_151 : decode cX9_init 151 = .ok (.aload_n 0, 1) := by decide +kernel
theorem dX9_init_152 : decode cX9_init 152 = .ok (.sipush 400, 3) := by decide +kernel
theorem dX9_init_155 : decode cX9_init 155 = .ok (.newarray .boolean, 2) := by decide +kernel
theorem dX9_init_157 : decode cX9_init 157 = .ok (.putfield 67, 3) := by decide +kernel
theorem dX9_init_160 : decode cX9_init 160 = .ok (.aload_n 0, 1) := by decide +kernel
theorem dX9_init_161 : decode cX9_init 161 = .ok (.bipush 10, 2) := by decide +kernel
theorem dX9_init_163 : decode cX9_init 163 = .ok (.newarray .int, 2) := by decide +kernel
theorem dX9_init_165 : decode cX9_init 165 = .ok (.putfield 71, 3) := by decide +kernel
theorem dX9_init_168 : decode cX9_init 168 = .ok (.aload_n 0, 1) := by decide +kernel
theorem dX9_init_169 : decode cX9_init 169 = .ok (.bipush 10, 2) := by decide +kernel
theorem dX9_init_171 : decode cX9_init 171 = .ok (.newarray .int, 2) := by decide +kernel
theorem dX9_init_173 : decode cX9_init 173 = .ok (.putfield 74, 3) := by decide +kernel
theorem dX9_init_176 : decode cX9_init 176 = .ok (.aload_n 0, 1) := by decide +kernel
theorem dX9_init_177 : decode cX9_init 177 = .ok (.sipush 2200, 3) := by decide +kernel
theorem dX9_init_180 : decode cX9_init 180 = .ok (.newarray .boolean, 2) := by decide +kernel
theorem dX9_init_182 : decode cX9_init 182 = .ok (.putfield 77, 3) := by decide +kernel
theorem dX9_init_185 : decode cX9_init 185 = .ok (.aload_n 0, 1) := by decide +kernel
theorem dX9_init_186 : decode cX9_init 186 = .ok (.bipush 72, 2) := by decide +kernel
theorem dX9_init_188 : decode cX9_init 188 = .ok (.newarray .char, 2) := by decide +kernel
theorem dX9_init_190 : decode cX9_init 190 = .ok (.dup, 1) := by decide +kernel
theorem dX9_init_191 : decode cX9_init 191 = .ok (.iconst 0, 1) := by decide +kernel
theorem dX9_init_192 : decode cX9_init 192 = .ok (.bipush 114, 2) := by decide +kernel
theorem dX9_init_194 : decode cX9_init 194 = .ok (.castore, 1) := by decide +kernel
theorem dX9_init_195 : decode cX9_init 195 = .ok (.dup, 1) := by decide +kernel
theorem dX9_init_196 : decode cX9_init 196 = .ok (.iconst 1, 1) := by decide +kernel
theorem dX9_init_197 : decode cX9_init 197 = .ok (.bipush 101, 2) := by decide +kernel
theorem dX9_init_199 : decode cX9_init 199 = .ok (.castore, 1) := by decide +kernel
theorem dX9_init_200 : decode cX9_init 200 = .ok (.dup, 1) := by decide +kernel
theorem dX9_init_201 : decode cX9_init 201 = .ok (.iconst 2, 1) := by decide +kernel
theorem dX9_init_202 : decode cX9_init 202 = .ok (.bipush 97, 2) := by decide +kernel
theorem dX9_init_204 : decode cX9_init 204 = .ok (.castore, 1) := by decide +kernel
theorem dX9_init_205 : decode cX9_init 205 = .ok (.dup, 1) := by decide +kernel
theorem dX9_init_206 : decode cX9_init 206 = .ok (.iconst 3, 1) := by decide +kernel
theorem dX9_init_207 : decode cX9_init 207 = .ok (.bipush 100, 2) := by decide +kernel
theorem dX9_init_209 : decode cX9_init 209 = .ok (.castore, 1) := by decide +kernel
theorem dX9_init_210 : decode cX9_init 210 = .ok (.dup, 1) := by decide +kernel
theorem dX9_init_211 : decode cX9_init 211 = .ok (.iconst 4, 1) := by decide +kernel
theorem dX9_init_212 : decode cX9_init 212 = .ok (.bipush 32, 2) := by decide +kernel
theorem dX9_init_214 : decode cX9_init 214 = .ok (.castore, 1) := by decide +kernel
theorem dX9_init_215 : decode cX9_init 215 = .ok (.dup, 1) := by decide +kernel
theorem dX9_init_216 : decode cX9_init 216 = .ok (.iconst 5, 1) := by decide +kernel
theorem dX9_init_217 : decode cX9_init 217 = .ok (.bipush 119, 2) := by decide +kernel
theorem dX9_init_219 : decode cX9_init 219 = .ok (.castore, 1) := by decide +kernel
theorem dX9_init_220 : decode cX9_init 220 = .ok (.dup, 1) := by decide +kernel
theorem dX9_init_221 : decode cX9_init 221 = .ok (.bipush 6, 2) := by decide +kernel
theorem dX9_init_223 : decode cX9_init 223 = .ok (.bipush 114, 2) := by decide +kernel
theorem dX9_init_225 : decode cX9_init 225 = .ok (.castore, 1) := by decide +kernel
theorem dX9_init_226 : decode cX9_init 226 = .ok (.dup, 1) := by decide +kernel
theorem dX9_init_227 : decode cX9_init 227 = .ok (.bipush 7, 2) := by decide +kernel
theorem dX9_init_229 : decode cX9_init 229 = .ok (.bipush 105, 2) := by decide +kernel
theorem dX9_init_231 : decode cX9_init 231 = .ok (.castore, 1) := by decide +kernel
theorem dX9_init_232 : decode cX9_init 232 = .ok (.dup, 1) := by decide +kernel
theorem dX9_init_233 : decode cX9_init 233 = .ok (.bipush 8, 2) := by decide +kernel
theorem dX9_init_235 : decode cX9_init 235 = .ok (.bipush 116, 2) := by decide +kernel
theorem dX9_init_237 : decode cX9_init 237 = .ok (.castore, 1) := by decide +kernel
theorem dX9_init_238 : decode cX9_init 238 = .ok (.dup, 1) := by decide +kernel
theorem dX9_init_239 : decode cX9_init 239 = .ok (.bipush 9, 2) := by decide +kernel
theorem dX9_init_241 : decode cX9_init 241 = .ok (.bipush 101, 2) := by decide +kernel
theorem dX9_init_243 : decode cX9_init 243 = .ok (.castore, 1) := by decide +kernel
theorem dX9_init_244 : decode cX9_init 244 = .ok (.dup, 1) := by decide +kernel
theorem dX9_init_245 : decode cX9_init 245 = .ok (.bipush 10, 2) := by decide +kernel
theorem dX9_init_247 : decode cX9_init 247 = .ok (.bipush 32, 2) := by decide +kernel
theorem dX9_init_249 : decode cX9_init 249 = .ok (.castore, 1) := by decide +kernel
theorem dX9_init_250 : decode cX9_init 250 = .ok (.dup, 1) := by decide +kernel
theorem dX9_init_251 : decode cX9_init 251 = .ok (.bipush 11, 2) := by decide +kernel
theorem dX9_init_253 : decode cX9_init 253 = .ok (.bipush 99, 2) := by decide +kernel
theorem dX9_init_255 : decode cX9_init 255 = .ok (.castore, 1) := by decide +kernel
theorem dX9_init_256 : decode cX9_init 256 = .ok (.dup, 1) := by decide +kernel
theorem dX9_init_257 : decode cX9_init 257 = .ok (.bipush 12, 2) := by decide +kernel
theorem dX9_init_259 : decode cX9_init 259 = .ok (.bipush 111, 2) := by decide +kernel
theorem dX9_init_261 : decode cX9_init 261 = .ok (.castore, 1) := by decide +kernel
theorem dX9_init_262 : decode cX9_init 262 = .ok (.dup, 1) := by decide +kernel
theorem dX9_init_263 : decode cX9_init 263 = .ok (.bipush 13, 2) := by decide +kernel
theorem dX9_init_265 : decode cX9_init 265 = .ok (.bipush 109, 2) := by decide +kernel
theorem dX9_init_267 : decode cX9_init 267 = .ok (.castore, 1) := by decide +kernel
theorem dX9_init_268 : decode cX9_init 268 = .ok (.dup, 1) := by decide +kernel
theorem dX9_init_269 : decode cX9_init 269 = .ok (.bipush 14, 2) := by decide +kernel
theorem dX9_init_271 : decode cX9_init 271 = .ok (.bipush 112, 2) := by decide +kernel
theorem dX9_init_273 : decode cX9_init 273 = .ok (.castore, 1) := by decide +kernel
theorem dX9_init_274 : decode cX9_init 274 = .ok (.dup, 1) := by decide +kernel
theorem dX9_init_275 : decode cX9_init 275 = .ok (.bipush 15, 2) := by decide +kernel
theorem dX9_init_277 : decode cX9_init 277 = .ok (.bipush 97, 2) := by decide +kernel
theorem dX9_init_279 : decode cX9_init 279 = .ok (.castore, 1) := by decide +kernel
theorem dX9_init_280 : decode cX9_init 280 = .ok (.dup, 1) := by decide +kernel
theorem dX9_init_281 : decode cX9_init 281 = .ok (.bipush 16, 2) := by decide +kernel
theorem dX9_init_283 : decode cX9_init 283 = .ok (.bipush 114, 2) := by decide +kernel
theorem dX9_init_285 : decode cX9_init 285 = .ok (.castore, 1) := by decide +kernel
theorem dX9_init_286 : decode cX9_init 286 = .ok (.dup, 1) := by decide +kernel
theorem dX9_init_287 : decode cX9_init 287 = .ok (.bipush 17, 2) := by decide +kernel
theorem dX9_init_289 : decode cX9_init 289 = .ok (.bipush 101, 2) := by decide +kernel
theorem dX9_init_291 : decode cX9_init 291 = .ok (.castore, 1) := by decide +kernel
theorem dX9_init_292 : decode cX9_init 292 = .ok (.dup, 1) := by decide +kernel
theorem dX9_init_293 : decode cX9_init 293 = .ok (.bipush 18, 2) := by decide +kernel
theorem dX9_init_295 : decode cX9_init 295 = .ok (.bipush 65, 2) := by decide +kernel
theorem dX9_init_297 : decode cX9_init 297 = .ok (.castore, 1) := by decide +kernel
theorem dX9_init_298 : decode cX9_init 298 = .ok (.dup, 1) := by decide +kernel
theorem dX9_init_299 : decode cX9_init 299 = .ok (.bipush 19, 2) := by decide +kernel
theorem dX9_init_301 : decode cX9_init 301 = .ok (.bipush 110, 2) := by decide +kernel
theorem dX9_init_303 : decode cX9_init 303 = .ok (.castore, 1) := by decide +kernel
theorem dX9_init_304 : decode cX9_init 304 = .ok (.dup, 1) := by decide +kernel
theorem dX9_init_305 : decode cX9_init 305 = .ok (.bipush 20, 2) := by decide +kernel
theorem dX9_init_307 : decode cX9_init 307 = .ok (.bipush 100, 2) := by decide +kernel
theorem dX9_init_309 : decode cX9_init 309 = .ok (.castore, 1) := by decide +kernel
theorem dX9_init_310 : decode cX9_init 310 = .ok (.dup, 1) := by decide +kernel
theorem dX9_init_311 : decode cX9_init 311 = .ok (.bipush 21, 2) := by decide +kernel
theorem dX9_init_313 : decode cX9_init 313 = .ok (.bipush 83, 2) := by decide +kernel
theorem dX9_init_315 : decode cX9_init 315 = .ok (.castore, 1) := by decide +kernel
theorem dX9_init_316 : decode cX9_init 316 = .ok (.dup, 1) := by decide +kernel
theorem dX9_init_317 : decode cX9_init 317 = .ok (.bipush 22, 2) := by decide +kernel
theorem dX9_init_319 : decode cX9_init 319 = .ok (.bipush 101, 2) := by decide +kernel
theorem dX9_init_321 : decode cX9_init 321 = .ok (.castore, 1) := by decide +kernel
theorem dX9_init_322 : decode cX9_init 322 = .ok (.dup, 1) := by decide +kernel
theorem dX9_init_323 : decode cX9_init 323 = .ok (.bipush 23, 2) := by decide +kernel
theorem dX9_init_325 : decode cX9_init 325 = .ok (.bipush 116, 2) := by decide +kernel
theorem dX9_init_327 : decode cX9_init 327 = .ok (.castore, 1) := by decide +kernel
theorem dX9_init_328 : decode cX9_init 328 = .ok (.dup, 1) := by decide +kernel
theorem dX9_init_329 : decode cX9_init 329 = .ok (.bipush 24, 2) := by decide +kernel
theorem dX9_init_331 : decode cX9_init 331 = .ok (.bipush 32, 2) := by decide +kernel
theorem dX9_init_333 : decode cX9_init 333 = .ok (.castore, 1) := by decide +kernel
theorem dX9_init_334 : decode cX9_init 334 = .ok (.dup, 1) := by decide +kernel
theorem dX9_init_335 : decode cX9_init 335 = .ok (.bipush 25, 2) := by decide +kernel
theorem dX9_init_337 : decode cX9_init 337 = .ok (.bipush 103, 2) := by decide +kernel
theorem dX9_init_339 : decode cX9_init 339 = .ok (.castore, 1) := by decide +kernel
theorem dX9_init_340 : decode cX9_init 340 = .ok (.dup, 1) := by decide +kernel
theorem dX9_init_341 : decode cX9_init 341 = .ok (.bipush 26, 2) := by decide +kernel
theorem dX9_init_343 : decode cX9_init 343 = .ok (.bipush 101, 2) := by decide +kernel
theorem dX9_init_345 : decode cX9_init 345 = .ok (.castore, 1) := by decide +kernel
theorem dX9_init_346 : decode cX9_init 346 = .ok (.dup, 1) := by decide +kernel
theorem dX9_init_347 : decode cX9_init 347 = .ok (.bipush 27, 2) := by decide +kernel
theorem dX9_init_349 : decode cX9_init 349 = .ok (.bipush 116, 2) := by decide +kernel
theorem dX9_init_351 : decode cX9_init 351 = .ok (.castore, 1) := by decide +kernel
theorem dX9_init_352 : decode cX9_init 352 = .ok (.dup, 1) := by decide +kernel
theorem dX9_init_353 : decode cX9_init 353 = .ok (.bipush 28, 2) := by decide +kernel
theorem dX9_init_355 : decode cX9_init 355 = .ok (.bipush 32, 2) := by decide +kernel
theorem dX9_init_357 : decode cX9_init 357 = .ok (.castore, 1) := by decide +kernel
theorem dX9_init_358 : decode cX9_init 358 = .ok (.dup, 1) := by decide +kernel
theorem dX9_init_359 : decode cX9_init 359 = .ok (.bipush 29, 2) := by decide +kernel
theorem dX9_init_361 : decode cX9_init 361 = .ok (.bipush 97, 2) := by decide +kernel
theorem dX9_init_363 : decode cX9_init 363 = .ok (.castore, 1) := by decide +kernel
theorem dX9_init_364 : decode cX9_init 364 = .ok (.dup, 1) := by decide +kernel
theorem dX9_init_365 : decode cX9_init 365 = .ok (.bipush 30, 2) := by decide +kernel
theorem dX9_init_367 : decode cX9_init 367 = .ok (.bipush 100, 2) := by decide +kernel
theorem dX9_init_369 : decode cX9_init 369 = .ok (.castore, 1) := by decide +kernel
theorem dX9_init_370 : decode cX9_init 370 = .ok (.dup, 1) := by decide +kernel
theorem dX9_init_371 : decode cX9_init 371 = .ok (.bipush 31, 2) := by decide +kernel
theorem dX9_init_373 : decode cX9_init 373 = .ok (.bipush 100, 2) := by decide +kernel
theorem dX9_init_375 : decode cX9_init 375 = .ok (.castore, 1) := by decide +kernel
theorem dX9_init_376 : decode cX9_init 376 = .ok (.dup, 1) := by decide +kernel
theorem dX9_init_377 : decode cX9_init 377 = .ok (.bipush 32, 2) := by decide +kernel
theorem dX9_init_379 : decode cX9_init 379 = .ok (.bipush 32, 2) := by decide +kernel
theorem dX9_init_381 : decode cX9_init 381 = .ok (.castore, 1) := by decide +kernel
theorem dX9_init_382 : decode cX9_init 382 = .ok (.dup, 1) := by decide +kernel
theorem dX9_init_383 : decode cX9_init 383 = .ok (.bipush 33, 2) := by decide +kernel
theorem dX9_init_385 : decode cX9_init 385 = .ok (.bipush 101, 2) := by decide +kernel
theorem dX9_init_387 : decode cX9_init 387 = .ok (.castore, 1) := by decide +kernel
theorem dX9_init_388 : decode cX9_init 388 = .ok (.dup, 1) := by decide +kernel
theorem dX9_init_389 : decode cX9_init 389 = .ok (.bipush 34, 2) := by decide +kernel
theorem dX9_init_391 : decode cX9_init 391 = .ok (.bipush 110, 2) := by decide +kernel
theorem dX9_init_393 : decode cX9_init 393 = .ok (.castore, 1) := by decide +kernel
theorem dX9_init_394 : decode cX9_init 394 = .ok (.dup, 1) := by decide +kernel
theorem dX9_init_395 : decode cX9_init 395 = .ok (.bipush 35, 2) := by decide +kernel
theorem dX9_init_397 : decode cX9_init 397 = .ok (.bipush 113, 2) := by decide +kernel
theorem dX9_init_399 : decode cX9_init 399 = .ok (.castore, 1) := by decide +kernel
theorem dX9_init_400 : decode cX9_init 400 = .ok (.dup, 1) := by decide +kernel
theorem dX9_init_401 : decode cX9_init 401 = .ok (.bipush 36, 2) := by decide +kernel
theorem dX9_init_403 : decode cX9_init 403 = .ok (.bipush 117, 2) := by decide +kernel
theorem dX9_init_405 : decode cX9_init 405 = .ok (.castore, 1) := by decide +kernel
theorem dX9_init_406 : decode cX9_init 406 = .ok (.dup, 1) := by decide +kernel
theorem dX9_init_407 : decode cX9_init 407 = .ok (.bipush 37, 2) := by decide +kernel
theorem dX9_init_409 : decode cX9_init 409 = .ok (.bipush 101, 2) := by decide +kernel
theorem dX9_init_411 : decode cX9_init 411 = .ok (.castore, 1) := by decide +kernel
theorem dX9_init_412 : decode cX9_init 412 = .ok (.dup, 1) := by decide +kernel
theorem dX9_init_413 : decode cX9_init 413 = .ok (.bipush 38, 2) := by decide +kernel
theorem dX9_init_415 : decode cX9_init 415 = .ok (.bipush 117, 2) := by decide +kernel
theorem dX9_init_417 : decode cX9_init 417 = .ok (.castore, 1) := by decide +kernel
theorem dX9_init_418 : decode cX9_init 418 = .ok (.dup, 1) := by decide +kernel
theorem dX9_init_419 : decode cX9_init 419 = .ok (.bipush 39, 2) := by decide +kernel
theorem dX9_init_421 : decode cX9_init 421 = .ok (.bipush 101, 2) := by decide +kernel
theorem dX9_init_423 : decode cX9_init 423 = .ok (.castore, 1) := by decide +kernel
theorem dX9_init_424 : decode cX9_init 424 = .ok (.dup, 1) := by decide +kernel
theorem dX9_init_425 : decode cX9_init 425 = .ok (.bipush 40, 2) := by decide +kernel
theorem dX9_init_427 : decode cX9_init 427 = .ok (.bipush 32, 2) := by decide +kernel
theorem dX9_init_429 : decode cX9_init 429 = .ok (.castore, 1) := by decide +kernel
theorem dX9_init_430 : decode cX9_init 430 = .ok (.dup, 1) := by decide +kernel
theorem dX9_init_431 : decode cX9_init 431 = .ok (.bipush 41, 2) := by decide +kernel
theorem dX9_init_433 : decode cX9_init 433 = .ok (.bipush 100, 2) := by decide +kernel
theorem dX9_init_435 : decode cX9_init 435 = .ok (.castore, 1) := by decide +kernel
theorem dX9_init_436 : decode cX9_init 436 = .ok (.dup, 1) := by decide +kernel
theorem dX9_init_437 : decode cX9_init 437 = .ok (.bipush 42, 2) := by decide +kernel
theorem dX9_init_439 : decode cX9_init 439 = .ok (.bipush 101, 2) := by decide +kernel
theorem dX9_init_441 : decode cX9_init 441 = .ok (.castore, 1) := by decide +kernel
theorem dX9_init_442 : decode cX9_init 442 = .ok (.dup, 1) := by decide +kernel
theorem dX9_init_443 : decode cX9_init 443 = .ok (.bipush 43, 2) := by decide +kernel
theorem dX9_init_445 : decode cX9_init 445 = .ok (.bipush 113, 2) := by decide +kernel
theorem dX9_init_447 : decode cX9_init 447 = .ok (.castore, 1) := by decide +kernel
theorem dX9_init_448 : decode cX9_init 448 = .ok (.dup, 1) := by decide +kernel
theorem dX9_init_449 : decode cX9_init 449 = .ok (.bipush 44, 2) := by decide +kernel
theorem dX9_init_451 : decode cX9_init 451 = .ok (.bipush 117, 2) := by decide +kernel
theorem dX9_init_453 : decode cX9_init 453 = .ok (.castore, 1) := by decide +kernel
theorem dX9_init_454 : decode cX9_init 454 = .ok (.dup, 1) := by decide +kernel
theorem dX9_init_455 : decode cX9_init 455 = .ok (.bipush 45, 2) := by decide +kernel
theorem dX9_init_457 : decode cX9_init 457 = .ok (.bipush 101, 2) := by decide +kernel
theorem dX9_init_459 : decode cX9_init 459 = .ok (.castore, 1) := by decide +kernel
theorem dX9_init_460 : decode cX9_init 460 = .ok (.dup, 1) := by decide +kernel
theorem dX9_init_461 : decode cX9_init 461 = .ok (.bipush 46, 2) := by decide +kernel
theorem dX9_init_463 : decode cX9_init 463 = .ok (.bipush 117, 2) := by decide +kernel
theorem dX9_init_465 : decode cX9_init 465 = .ok (.castore, 1) := by decide +kernel
theorem dX9_init_466 : decode cX9_init 466 = .ok (.dup, 1) := by decide +kernel
theorem dX9_init_467 : decode cX9_init 467 = .ok (.bipush 47, 2) := by decide +kernel
theorem dX9_init_469 : decode cX9_init 469 = .ok (.bipush 101, 2) := by decide +kernel
theorem dX9_init_471 : decode cX9_init 471 = .ok (.castore, 1) := by decide +kernel
theorem dX9_init_472 : decode cX9_init 472 = .ok (.dup, 1) := by decide +kernel
theorem dX9_init_473 : decode cX9_init 473 = .ok (.bipush 48, 2) := by decide +kernel
theorem dX9_init_475 : decode cX9_init 475 = .ok (.bipush 32, 2) := by decide +kernel
theorem dX9_init_477 : decode cX9_init 477 = .ok (.castore, 1) := by decide +kernel
theorem dX9_init_478 : decode cX9_init 478 = .ok (.dup, 1) := by decide +kernel
theorem dX9_init_479 : decode cX9_init 479 = .ok (.bipush 49, 2) := by decide +kernel
theorem dX9_init_481 : decode cX9_init 481 = .ok (.bipush 105, 2) := by decide +kernel
theorem dX9_init_483 : decode cX9_init 483 = .ok (.castore, 1) := by decide +kernel
theorem dX9_init_484 : decode cX9_init 484 = .ok (.dup, 1) := by decide +kernel
theorem dX9_init_485 : decode cX9_init 485 = .ok (.bipush 50, 2) := by decide +kernel
theorem dX9_init_487 : decode cX9_init 487 = .ok (.bipush 110, 2) := by decide +kernel
theorem dX9_init_489 : decode cX9_init 489 = .ok (.castore, 1) := by decide +kernel
theorem dX9_init_490 : decode cX9_init 490 = .ok (.dup, 1) := by decide +kernel
theorem dX9_init_491 : decode cX9_init 491 = .ok (.bipush 51, 2) := by decide +kernel
theorem dX9_init_493 : decode cX9_init 493 = .ok (.bipush 115, 2) := by decide +kernel
theorem dX9_init_495 : decode cX9_init 495 = .ok (.castore, 1) := by decide +kernel
theorem dX9_init_496 : decode cX9_init 496 = .ok (.dup, 1) := by decide +kernel
theorem dX9_init_497 : decode cX9_init 497 = .ok (.bipush 52, 2) := by decide +kernel
theorem dX9_init_499 : decode cX9_init 499 = .ok (.bipush 101, 2) := by decide +kernel
theorem dX9_init_501 : decode cX9_init 501 = .ok (.castore, 1) := by decide +kernel
theorem dX9_init_502 : decode cX9_init 502 = .ok (.dup, 1) := by decide +kernel
theorem dX9_init_503 : decode cX9_init 503 = .ok (.bipush 53, 2) := by decide +kernel
theorem dX9_init_505 : decode cX9_init 505 = .ok (.bipush 114, 2) := by decide +kernel
theorem dX9_init_507 : decode cX9_init 507 = .ok (.castore, 1) := by decide +kernel
theorem dX9_init_508 : decode cX9_init 508 = .ok (.dup, 1) := by decide +kernel
theorem dX9_init_509 : decode cX9_init 509 = .ok (.bipush 54, 2) := by decide +kernel
theorem dX9_init_511 : decode cX9_init 511 = .ok (.bipush 116, 2) := by decide +kernel
theorem dX9_init_513 : decode cX9_init 513 = .ok (.castore, 1) := by decide +kernel
theorem dX9_init_514 : decode cX9_init 514 = .ok (.dup, 1) := by decide +kernel
theorem dX9_init_515 : decode cX9_init 515 = .ok (.bipush 55, 2) := by decide +kernel
theorem dX9_init_517 : decode cX9_init 517 = .ok (.bipush 32, 2) := by decide +kernel
theorem dX9_init_519 : decode cX9_init 519 = .ok (.castore, 1) := by decide +kernel
theorem dX9_init_520 : decode cX9_init 520 = .ok (.dup, 1) := by decide +kernel
theorem dX9_init_521 : decode cX9_init 521 = .ok (.bipush 56, 2) := by decide +kernel
theorem dX9_init_523 : decode cX9_init 523 = .ok (.bipush 114, 2) := by decide +kernel
theorem dX9_init_525 : decode cX9_init 525 = .ok (.castore, 1) := by decide +kernel
theorem dX9_init_526 : decode cX9_init 526 = .ok (.dup, 1) := by decide +kernel
theorem dX9_init_527 : decode cX9_init 527 = .ok (.bipush 57, 2) := by decide +kernel
theorem dX9_init_529 : decode cX9_init 529 = .ok (.bipush 101, 2) := by decide +kernel
theorem dX9_init_531 : decode cX9_init 531 = .ok (.castore, 1) := by decide +kernel
theorem dX9_init_532 : decode cX9_init 532 = .ok (.dup, 1) := by decide +kernel
theorem dX9_init_533 : decode cX9_init 533 = .ok (.bipush 58, 2) := by decide +kernel
theorem dX9_init_535 : decode cX9_init 535 = .ok (.bipush 109, 2) := by decide +kernel
theorem dX9_init_537 : decode cX9_init 537 = .ok (.castore, 1) := by decide +kernel
theorem dX9_init_538 : decode cX9_init 538 = .ok (.dup, 1) := by decide +kernel
theorem dX9_init_539 : decode cX9_init 539 = .ok (.bipush 59, 2) := by decide +kernel
theorem dX9_init_541 : decode cX9_init 541 = .ok (.bipush 111, 2) := by decide +kernel
theorem dX9_init_543 : decode cX9_init 543 = .ok (.castore, 1) := by decide +kernel
theorem dX9_init_544 : decode cX9_init 544 = .ok (.dup, 1) := by decide +kernel
theorem dX9_init_545 : decode cX9_init 545 = .ok (.bipush 60, 2) := by decide +kernel
theorem dX9_init_547 : decode cX9_init 547 = .ok (.bipush 118, 2) := by decide +kernel
theorem dX9_init_549 : decode cX9_init 549 = .ok (.castore, 1) := by decide +kernel
theorem dX9_init_550 : decode cX9_init 550 = .ok (.dup, 1) := by decide +kernel
theorem dX9_init_551 : decode cX9_init 551 = .ok (.bipush 61, 2) := by decide +kernel
theorem dX9_init_553 : decode cX9_init 553 = .ok (.bipush 101, 2) := by decide +kernel
theorem dX9_init_555 : decode cX9_init 555 = .ok (.castore, 1) := by decide +kernel
theorem dX9_init_556 : decode cX9_init 556 = .ok (.dup, 1) := by decide +kernel
theorem dX9_init_557 : decode cX9_init 557 = .ok (.bipush 62, 2) := by decide +kernel
theorem dX9_init_559 : decode cX9_init 559 = .ok (.bipush 32, 2) := by decide +kernel
theorem dX9_init_561 : decode cX9_init 561 = .ok (.castore, 1) := by decide +kernel
theorem dX9_init_562 : decode cX9_init 562 = .ok (.dup, 1) := by decide +kernel
theorem dX9_init_563 : decode cX9_init 563 = .ok (.bipush 63, 2) := by decide +kernel
theorem dX9_init_565 : decode cX9_init 565 = .ok (.bipush 99, 2) := by decide +kernel
theorem dX9_init_567 : decode cX9_init 567 = .ok (.castore, 1) := by decide +kernel
theorem dX9_init_568 : decode cX9_init 568 = .ok (.dup, 1) := by decide +kernel
theorem dX9_init_569 : decode cX9_init 569 = .ok (.bipush 64, 2) := by decide +kernel
theorem dX9_init_571 : decode cX9_init 571 = .ok (.bipush 111, 2) := by decide +kernel
theorem dX9_init_573 : decode cX9_init 573 = .ok (.castore, 1) := by decide +kernel
theorem dX9_init_574 : decode cX9_init 574 = .ok (.dup, 1) := by decide +kernel
theorem dX9_init_575 : decode cX9_init 575 = .ok (.bipush 65, 2) := by decide +kernel
theorem dX9_init_577 : decode cX9_init 577 = .ok (.bipush 110, 2) := by decide +kernel
theorem dX9_init_579 : decode cX9_init 579 = .ok (.castore, 1) := by decide +kernel
theorem dX9_init_580 : decode cX9_init 580 = .ok (.dup, 1) := by decide +kernel
theorem dX9_init_581 : decode cX9_init 581 = .ok (.bipush 66, 2) := by decide +kernel
theorem dX9_init_583 : decode cX9_init 583 = .ok (.bipush 116, 2) := by decide +kernel
theorem dX9_init_585 : decode cX9_init 585 = .ok (.castore, 1) := by decide +kernel
theorem dX9_init_586 : decode cX9_init 586 = .ok (.dup, 1) := by decide +kernel
theorem dX9_init_587 : decode cX9_init 587 = .ok (.bipush 67, 2) := by decide +kernel
theorem dX9_init_589 : decode cX9_init 589 = .ok (.bipush 97, 2) := by decide +kernel
theorem dX9_init_591 : decode cX9_init 591 = .ok (.castore, 1) := by decide +kernel
theorem dX9_init_592 : decode cX9_init 592 = .ok (.dup, 1) := by decide +kernel
theorem dX9_init_593 : decode cX9_init 593 = .ok (.bipush 68, 2) := by decide +kernel
theorem dX9_init_595 : decode cX9_init 595 = .ok (.bipush 105, 2) := by decide +kernel
theorem dX9_init_597 : decode cX9_init 597 = .ok (.castore, 1) := by decide +kernel
theorem dX9_init_598 : decode cX9_init 598 = .ok (.dup, 1) := by decide +kernel
theorem dX9_init_599 : decode cX9_init 599 = .ok (.bipush 69, 2) := by decide +kernel
theorem dX9_init_601 : decode cX9_init 601 = .ok (.bipush 110, 2) := by decide +kernel
theorem dX9_init_603 : decode cX9_init 603 = .ok (.castore, 1) := by decide +kernel
theorem dX9_init_604 : decode cX9_init 604 = .ok (.dup, 1) := by decide +kernel
theorem dX9_init_605 : decode cX9_init 605 = .ok (.bipush 70, 2) := by decide +kernel
theorem dX9_init_607 : decode cX9_init 607 = .ok (.bipush 115, 2) := by decide +kernel
theorem dX9_init_609 : decode cX9_init 609 = .ok (.castore, 1) := by decide +kernel
theorem dX9_init_610 : decode cX9_init 610 = .ok (.dup, 1) := by decide +kernel
theorem dX9_init_611 : decode cX9_init 611 = .ok (.bipush 71, 2) := by decide +kernel
theorem dX9_init_613 : decode cX9_init 613 = .ok (.bipush 32, 2) := by decide +kernel
theorem dX9_init_615 : decode cX9_init 615 = .ok (.castore, 1) := by decide +kernel
theorem dX9_init_616 : decode cX9_init 616 = .ok (.putfield 80, 3) := by decide +kernel
theorem dX9_init_619 : decode cX9_init 619 = .ok (.aload_n 0, 1) := by decide +kernel
theorem dX9_init_620 : decode cX9_init 620 = .ok (.bipush 120, 2) := by decide +kernel
theorem dX9_init_622 : decode cX9_init 622 = .ok (.newarray .int, 2) := by decide +kernel
theorem dX9_init_624 : decode cX9_init 624 = .ok (.putfield 84, 3) := by decide +kernel
theorem dX9_init_627 : decode cX9_init 627 = .ok (.aload_n 0, 1) := by decide +kernel
theorem dX9_init_628 : decode cX9_init 628 = .ok (.iconst 4, 1) := by decide +kernel
theorem dX9_init_629 : decode cX9_init 629 = .ok (.newarray .int, 2) := by decide +kernel
theorem dX9_init_631 : decode cX9_init 631 = .ok (.putfield 87, 3) := by decide +kernel
theorem dX9_init_634 : decode cX9_init 634 = .ok (.aload_n 0, 1) := by decide +kernel
theorem dX9_init_635 : decode cX9_init 635 = .ok (.sipush 174, 3) := by decide +kernel
theorem dX9_init_638 : decode cX9_init 638 = .ok (.newarray .int, 2) := by decide +kernel
theorem dX9_init_640 : decode cX9_init 640 = .ok (.putfield 90, 3) := by decide +kernel
theorem dX9_init_643 : decode cX9_init 643 = .ok (.return_, 1) := by decide +kernel
theorem dX9_isIn_0 : decode cX9_isIn 0 = .ok (.iload_n 0, 1) := by decide +kernel
theorem dX9_isIn_1 : decode cX9_isIn 1 = .ok (.iload_n 1, 1) := by decide +kernel
theorem dX9_isIn_2 : decode cX9_isIn 2 = .ok (.if_icmp .lt 12, 3) := by decide +kernel
theorem dX9_isIn_5 : decode cX9_isIn 5 = .ok (.iload_n 0, 1) := by decide +kernel
theorem dX9_isIn_6 : decode cX9_isIn 6 = .ok (.iload_n 2, 1) := by decide +kernel
theorem dX9_isIn_7 : decode cX9_isIn 7 = .ok (.if_icmp .gt 7, 3) := by decide +kernel
theorem dX9_isIn_10 : decode cX9_isIn 10 = .ok (.iconst 1, 1) := by decide +kernel
theorem dX9_isIn_11 : decode cX9_isIn 11 = .ok (.goto 4, 3) := by decide +kernel
theorem dX9_isIn_14 : decode cX9_isIn 14 = .ok (.iconst 0, 1) := by decide +kernel
theorem dX9_isIn_15 : decode cX9_isIn 15 = .ok (.ireturn, 1) := by decide +kernel
theorem dX9_isThread_0 : decode cX9_isThread 0 = .ok (.iload_n 0, 1) := by decide +kernel
theorem dX9_isThread_1 : decode cX9_isThread 1 = .ok (.iconst 0, 1) := by decide +kernel
theorem dX9_isThread_2 : decode cX9_isThread 2 = .ok (.iconst 3, 1) := by decide +kernel
theorem dX9_isThread_3 : decode cX9_isThread 3 = .ok (.invokestatic 93, 3) := by decide +kernel
theorem dX9_isThread_6 : decode cX9_isThread 6 = .ok (.ireturn, 1) := by decide +kernel
theorem dX9_isObject_0 : decode cX9_isObject 0 = .ok (.iload_n 1, 1) := by decide +kernel
theorem dX9_isObject_1 : decode cX9_isObject 1 = .ok (.iconst 0, 1) := by decide +kernel
theorem dX9_isObject_2 : decode cX9_isObject 2 = .ok (.aload_n 0, 1) := by decide +kernel
theorem dX9_isObject_3 : decode cX9_isObject 3 = .ok (.getfield 97, 3) := by decide +kernel
theorem dX9_isObject_6 : decode cX9_isObject 6 = .ok (.iconst 1, 1) := by decide +kernel
theorem dX9_isObject_7 : decode cX9_isObject 7 = .ok (.isub, 1) := by decide +kernel
theorem dX9_isObject_8 : decode cX9_isObject 8 = .ok (.invokestatic 93, 3) := by decide +kernel
theorem dX9_isObject_11 : decode cX9_isObject 11 = .ok (.ireturn, 1) := by decide +kernel
theorem dX9_isOperation_0 : decode cX9_isOperation 0 = .ok (.iload_n 1, 1) := by decide +kernel
theorem dX9_isOperation_1 : decode cX9_isOperation 1 = .ok (.iconst 0, 1) := by decide +kernel
theorem dX9_isOperation_2 : decode cX9_isOperation 2 = .ok (.aload_n 0, 1) := by decide +kernel
theorem dX9_isOperation_3 : decode cX9_isOperation 3 = .ok (.getfield 101, 3) := by decide +kernel
theorem dX9_isOperation_6 : decode cX9_isOperation 6 = .ok (.iconst 1, 1) := by decide +kernel
theorem dX9_isOperation_7 : decode cX9_isOperation 7 = .ok (.isub, 1) := by decide +kernel
theorem dX9_isOperation_8 : decode cX9_isOperation 8 = .ok (.invokestatic 93, 3) := by decide +kernel
theorem dX9_isOperation_11 : decode cX9_isOperation 11 = .ok (.ireturn, 1) := by decide +kernel
theorem dX9_pendingOf_0 : decode cX9_pendingOf 0 = .ok (.iconst 0, 1) := by decide +kernel
theorem dX9_pendingOf_1 : decode cX9_pendingOf 1 = .ok (.istore_n 2, 1) := by decide +kernel
theorem dX9_pendingOf_2 : decode cX9_pendingOf 2 = .ok (.iload_n 2, 1) := by decide +kernel
theorem dX9_pendingOf_3 : decode cX9_pendingOf 3 = .ok (.aload_n 0, 1) := by decide +kernel
theorem dX9_pendingOf_4 : decode cX9_pendingOf 4 = .ok (.getfield 101, 3) := by decide +kernel
theorem dX9_pendingOf_7 : decode cX9_pendingOf 7 = .ok (.if_icmp .ge 31, 3) := by decide +kernel
theorem dX9_pendingOf_10 : decode cX9_pendingOf 10 = .ok (.aload_n 0, 1) := by decide +kernel
theorem dX9_pendingOf_11 : decode cX9_pendingOf 11 = .ok (.getfield 19, 3) := by decide +kernel
theorem dX9_pendingOf_14 : decode cX9_pendingOf 14 = .ok (.iload_n 2, 1) := by decide +kernel
theorem dX9_pendingOf_15 : decode cX9_pendingOf 15 = .ok (.iaload, 1) := by decide +kernel
theorem dX9_pendingOf_16 : decode cX9_pendingOf 16 = .ok (.iload_n 1, 1) := by decide +kernel
theorem dX9_pendingOf_17 : decode cX9_pendingOf 17 = .ok (.if_icmp .ne 15, 3) := by decide +kernel
theorem dX9_pendingOf_20 : decode cX9_pendingOf 20 = .ok (.aload_n 0, 1) := by decide +kernel
theorem dX9_pendingOf_21 : decode cX9_pendingOf 21 = .ok (.getfield 34, 3) := by decide +kernel
theorem dX9_pendingOf_24 : decode cX9_pendingOf 24 = .ok (.iload_n 2, 1) := by decide +kernel
theorem dX9_pendingOf_25 : decode cX9_pendingOf 25 = .ok (.iaload, 1) := by decide +kernel
theorem dX9_pendingOf_26 : decode cX9_pendingOf 26 = .ok (.iconst (-1), 1) := by decide +kernel
theorem dX9_pendingOf_27 : decode cX9_pendingOf 27 = .ok (.if_icmp .ne 5, 3) := by decide +kernel
theorem dX9_pendingOf_30 : decode cX9_pendingOf 30 = .ok (.iload_n 2, 1) := by decide +kernel
theorem dX9_pendingOf_31 : decode cX9_pendingOf 31 = .ok (.ireturn, 1) := by decide +kernel
theorem dX9_pendingOf_32 : decode cX9_pendingOf 32 = .ok (.iinc 2 1, 3) := by decide +kernel
theorem dX9_pendingOf_35 : decode cX9_pendingOf 35 = .ok (.goto (-33), 3) := by decide +kernel
theorem dX9_pendingOf_38 : decode cX9_pendingOf 38 = .ok (.bipush (-10), 2) := by decide +kernel
theorem dX9_pendingOf_40 : decode cX9_pendingOf 40 = .ok (.ireturn, 1) := by decide +kernel
theorem dX9_isCrashed_0 : decode cX9_isCrashed 0 = .ok (.iconst 0, 1) := by decide +kernel
theorem dX9_isCrashed_1 : decode cX9_isCrashed 1 = .ok (.istore_n 2, 1) := by decide +kernel
theorem dX9_isCrashed_2 : decode cX9_isCrashed 2 = .ok (.iconst 0, 1) := by decide +kernel
theorem dX9_isCrashed_3 : decode cX9_isCrashed 3 = .ok (.istore_n 3, 1) := by decide +kernel
theorem dX9_isCrashed_4 : decode cX9_isCrashed 4 = .ok (.iload_n 3, 1) := by decide +kernel
theorem dX9_isCrashed_5 : decode cX9_isCrashed 5 = .ok (.aload_n 0, 1) := by decide +kernel
theorem dX9_isCrashed_6 : decode cX9_isCrashed 6 = .ok (.getfield 104, 3) := by decide +kernel
theorem dX9_isCrashed_9 : decode cX9_isCrashed 9 = .ok (.if_icmp .ge 39, 3) := by decide +kernel
theorem dX9_isCrashed_12 : decode cX9_isCrashed 12 = .ok (.iload_n 2, 1) := by decide +kernel
theorem dX9_isCrashed_13 : decode cX9_isCrashed 13 = .ok (.ifCond .ne 23, 3) := by decide +kernel
theorem dX9_isCrashed_16 : decode cX9_isCrashed 16 = .ok (.aload_n 0, 1) := by decide +kernel
theorem dX9_isCrashed_17 : decode cX9_isCrashed 17 = .ok (.getfield 40, 3) := by decide +kernel
theorem dX9_isCrashed_20 : decode cX9_isCrashed 20 = .ok (.iload_n 3, 1) := by decide +kernel
theorem dX9_isCrashed_21 : decode cX9_isCrashed 21 = .ok (.iaload, 1) := by decide +kernel
theorem dX9_isCrashed_22 : decode cX9_isCrashed 22 = .ok (.iconst 2, 1) := by decide +kernel
theorem dX9_isCrashed_23 : decode cX9_isCrashed 23 = .ok (.if_icmp .ne 17, 3) := by decide +kernel
theorem dX9_isCrashed_26 : decode cX9_isCrashed 26 = .ok (.aload_n 0, 1) := by decide +kernel
theorem dX9_isCrashed_27 : decode cX9_isCrashed 27 = .ok (.getfield 43, 3) := by decide +kernel
theorem dX9_isCrashed_30 : decode cX9_isCrashed 30 = .ok (.iload_n 3, 1) := by decide +kernel
theorem dX9_isCrashed_31 : decode cX9_isCrashed 31 = .ok (.iaload, 1) := by decide +kernel
theorem dX9_isCrashed_32 : decode cX9_isCrashed 32 = .ok (.iload_n 1, 1) := by decide +kernel
theorem dX9_isCrashed_33 : decode cX9_isCrashed 33 = .ok (.if_icmp .ne 7, 3) := by decide +kernel
theorem dX9_isCrashed_36 : decode cX9_isCrashed 36 = .ok (.iconst 1, 1) := by decide +kernel
theorem dX9_isCrashed_37 : decode cX9_isCrashed 37 = .ok (.goto 4, 3) := by decide +kernel
theorem dX9_isCrashed_40 : decode cX9_isCrashed 40 = .ok (.iconst 0, 1) := by decide +kernel
theorem dX9_isCrashed_41 : decode cX9_isCrashed 41 = .ok (.istore_n 2, 1) := by decide +kernel
theorem dX9_isCrashed_42 : decode cX9_isCrashed 42 = .ok (.iinc 3 1, 3) := by decide +kernel
theorem dX9_isCrashed_45 : decode cX9_isCrashed 45 = .ok (.goto (-41), 3) := by decide +kernel
theorem dX9_isCrashed_48 : decode cX9_isCrashed 48 = .ok (.iload_n 2, 1) := by decide +kernel
theorem dX9_isCrashed_49 : decode cX9_isCrashed 49 = .ok (.ireturn, 1) := by decide +kernel
theorem dX9_append_0 : decode cX9_append 0 = .ok (.aload_n 0, 1) := by decide +kernel
theorem dX9_append_1 : decode cX9_append 1 = .ok (.getfield 40, 3) := by decide +kernel
theorem dX9_append_4 : decode cX9_append 4 = .ok (.aload_n 0, 1) := by decide +kernel
theorem dX9_append_5 : decode cX9_append 5 = .ok (.getfield 104, 3) := by decide +kernel
theorem dX9_append_8 : decode cX9_append 8 = .ok (.iload_n 1, 1) := by decide +kernel
theorem dX9_append_9 : decode cX9_append 9 = .ok (.iastore, 1) := by decide +kernel
theorem dX9_append_10 : decode cX9_append 10 = .ok (.aload_n 0, 1) := by decide +kernel
theorem dX9_append_11 : decode cX9_append 11 = .ok (.getfield 43, 3) := by decide +kernel
theorem dX9_append_14 : decode cX9_append 14 = .ok (.aload_n 0, 1) := by decide +kernel
theorem dX9_append_15 : decode cX9_append 15 = .ok (.getfield 104, 3) := by decide +kernel
theorem dX9_append_18 : decode cX9_append 18 = .ok (.iload_n 2, 1) := by decide +kernel
theorem dX9_append_19 : decode cX9_append 19 = .ok (.iastore, 1) := by decide +kernel
theorem dX9_append_20 : decode cX9_append 20 = .ok (.aload_n 0, 1) := by decide +kernel
theorem dX9_append_21 : decode cX9_append 21 = .ok (.getfield 46, 3) := by decide +kernel
theorem dX9_append_24 : decode cX9_append 24 = .ok (.aload_n 0, 1) := by decide +kernel
theorem dX9_append_25 : decode cX9_append 25 = .ok (.getfield 104, 3) := by decide +kernel
theorem dX9_append_28 : decode cX9_append 28 = .ok (.iload_n 3, 1) := by decide +kernel
theorem dX9_append_29 : decode cX9_append 29 = .ok (.iastore, 1) := by decide +kernel
theorem dX9_append_30 : decode cX9_append 30 = .ok (.aload_n 0, 1) := by decide +kernel
theorem dX9_append_31 : decode cX9_append 31 = .ok (.dup, 1) := by decide +kernel
theorem dX9_append_32 : decode cX9_append 32 = .ok (.getfield 104, 3) := by decide +kernel
theorem dX9_append_35 : decode cX9_append 35 = .ok (.iconst 1, 1) := by decide +kernel
theorem dX9_append_36 : decode cX9_append 36 = .ok (.iadd, 1) := by decide +kernel
theorem dX9_append_37 : decode cX9_append 37 = .ok (.putfield 104, 3) := by decide +kernel
theorem dX9_append_40 : decode cX9_append 40 = .ok (.aload_n 0, 1) := by decide +kernel
theorem dX9_append_41 : decode cX9_append 41 = .ok (.iconst 0, 1) := by decide +kernel
theorem dX9_append_42 : decode cX9_append 42 = .ok (.putfield 107, 3) := by decide +kernel
theorem dX9_append_45 : decode cX9_append 45 = .ok (.aload_n 0, 1) := by decide +kernel
theorem dX9_append_46 : decode cX9_append 46 = .ok (.getfield 104, 3) := by decide +kernel
theorem dX9_append_49 : decode cX9_append 49 = .ok (.iconst 1, 1) := by decide +kernel
theorem dX9_append_50 : decode cX9_append 50 = .ok (.isub, 1) := by decide +kernel
theorem dX9_append_51 : decode cX9_append 51 = .ok (.ireturn, 1) := by decide +kernel
theorem dX9_create_0 : decode cX9_create 0 = .ok (.aload_n 0, 1) := by decide +kernel
theorem dX9_create_1 : decode cX9_create 1 = .ok (.getfield 97, 3) := by decide +kernel
theorem dX9_create_4 : decode cX9_create 4 = .ok (.iconst 4, 1) := by decide +kernel
theorem dX9_create_5 : decode cX9_create 5 = .ok (.if_icmp .ne 6, 3) := by decide +kernel
theorem dX9_create_8 : decode cX9_create 8 = .ok (.bipush (-8), 2) := by decide +kernel
theorem dX9_create_10 : decode cX9_create 10 = .ok (.ireturn, 1) := by decide +kernel
theorem dX9_create_11 : decode cX9_create 11 = .ok (.aload_n 0, 1) := by decide +kernel
theorem dX9_create_12 : decode cX9_create 12 = .ok (.getfield 9, 3) := by decide +kernel
theorem dX9_create_15 : decode cX9_create 15 = .ok (.aload_n 0, 1) := by decide +kernel
theorem dX9_create_16 : decode cX9_create 16 = .ok (.getfield 97, 3) := by decide +kernel
theorem dX9_create_19 : decode cX9_create 19 = .ok (.iload_n 1, 1) := by decide +kernel
theorem dX9_create_20 : decode cX9_create 20 = .ok (.iastore, 1) := by decide +kernel
theorem dX9_create_21 : decode cX9_create 21 = .ok (.aload_n 0, 1) := by decide +kernel
theorem dX9_create_22 : decode cX9_create 22 = .ok (.getfield 13, 3) := by decide +kernel
theorem dX9_create_25 : decode cX9_create 25 = .ok (.aload_n 0, 1) := by decide +kernel
theorem dX9_create_26 : decode cX9_create 26 = .ok (.getfield 97, 3) := by decide +kernel
theorem dX9_create_29 : decode cX9_create 29 = .ok (.iload_n 2, 1) := by decide +kernel
theorem dX9_create_30 : decode cX9_create 30 = .ok (.iastore, 1) := by decide +kernel
theorem dX9_create_31 : decode cX9_create 31 = .ok (.aload_n 0, 1) := by decide +kernel
theorem dX9_create_32 : decode cX9_create 32 = .ok (.dup, 1) := by decide +kernel
theorem dX9_create_33 : decode cX9_create 33 = .ok (.getfield 97, 3) := by decide +kernel
theorem dX9_create_36 : decode cX9_create 36 = .ok (.iconst 1, 1) := by decide +kernel
theorem dX9_create_37 : decode cX9_create 37 = .ok (.iadd, 1) := by decide +kernel
theorem dX9_create_38 : decode cX9_create 38 = .ok (.putfield 97, 3) := by decide +kernel
theorem dX9_create_41 : decode cX9_create 41 = .ok (.aload_n 0, 1) := by decide +kernel
theorem dX9_create_42 : decode cX9_create 42 = .ok (.iconst 0, 1) := by decide +kernel
theorem dX9_create_43 : decode cX9_create 43 = .ok (.putfield 107, 3) := by decide +kernel
theorem dX9_create_46 : decode cX9_create 46 = .ok (.aload_n 0, 1) := by decide +kernel
theorem dX9_create_47 : decode cX9_create 47 = .ok (.getfield 97, 3) := by decide +kernel
theorem dX9_create_50 : decode cX9_create 50 = .ok (.iconst 1, 1) := by decide +kernel
theorem dX9_create_51 : decode cX9_create 51 = .ok (.isub, 1) := by decide +kernel
theorem dX9_create_52 : decode cX9_create 52 = .ok (.ireturn, 1) := by decide +kernel
theorem dX9_createRegister_0 : decode cX9_createRegister 0 = .ok (.iload_n 1, 1) := by decide +kernel
theorem dX9_createRegister_1 : decode cX9_createRegister 1 = .ok (.iconst 0, 1) := by decide +kernel
theorem dX9_createRegister_2 : decode cX9_createRegister 2 = .ok (.bipush 99, 2) := by decide +kernel
theorem dX9_createRegister_4 : decode cX9_createRegister 4 = .ok (.invokestatic 93, 3) := by decide +kernel
theorem dX9_createRegister_7 : decode cX9_createRegister 7 = .ok (.ifCond .eq 12, 3) := by decide +kernel
theorem dX9_createRegister_10 : decode cX9_createRegister 10 = .ok (.aload_n 0, 1) := by decide +kernel
theorem dX9_createRegister_11 : decode cX9_createRegister 11 = .ok (.iconst 0, 1) := by decide +kernel
theorem dX9_createRegister_12 : decode cX9_createRegister 12 = .ok (.iload_n 1, 1) := by decide +kernel
theorem dX9_createRegister_13 : decode cX9_createRegister 13 = .ok (.invokevirtual 110, 3) := by decide +kernel
theorem dX9_createRegister_16 : decode cX9_createRegister 16 = .ok (.goto 5, 3) := by decide +kernel
theorem dX9_createRegister_19 : decode cX9_createRegister 19 = .ok (.bipush (-4), 2) := by decide +kernel
theorem dX9_createRegister_21 : decode cX9_createRegister 21 = .ok (.ireturn, 1) := by decide +kernel
theorem dX9_createCounter_0 : decode cX9_createCounter 0 = .ok (.iload_n 1, 1) := by decide +kernel
theorem dX9_createCounter_1 : decode cX9_createCounter 1 = .ok (.bipush (-99), 2) := by decide +kernel
theorem dX9_createCounter_3 : decode cX9_createCounter 3 = .ok (.bipush 99, 2) := by decide +kernel
theorem dX9_createCounter_5 : decode cX9_createCounter 5 = .ok (.invokestatic 93, 3) := by decide +kernel
theorem dX9_createCounter_8 : decode cX9_createCounter 8 = .ok (.ifCond .eq 12, 3) := by decide +kernel
theorem dX9_createCounter_11 : decode cX9_createCounter 11 = .ok (.aload_n 0, 1) := by decide +kernel
theorem dX9_createCounter_12 : decode cX9_createCounter 12 = .ok (.iconst 1, 1) := by decide +kernel
theorem dX9_createCounter_13 : decode cX9_createCounter 13 = .ok (.iload_n 1, 1) := by decide +kernel
theorem dX9_createCounter_14 : decode cX9_createCounter 14 = .ok (.invokevirtual 110, 3) := by decide +kernel
theorem dX9_createCounter_17 : decode cX9_createCounter 17 = .ok (.goto 5, 3) := by decide +kernel
theorem dX9_createCounter_20 : decode cX9_createCounter 20 = .ok (.bipush (-4), 2) := by decide +kernel
theorem dX9_createCounter_22 : decode cX9_createCounter 22 = .ok (.ireturn, 1) := by decide +kernel
theorem dX9_createQueue_0 : decode cX9_createQueue 0 = .ok (.aload_n 0, 1) := by decide +kernel
theorem dX9_createQueue_1 : decode cX9_createQueue 1 = .ok (.iconst 2, 1) := by decide +kernel
theorem dX9_createQueue_2 : decode cX9_createQueue 2 = .ok (.iconst 0, 1) := by decide +kernel
theorem dX9_createQueue_3 : decode cX9_createQueue 3 = .ok (.invokevirtual 110, 3) := by decide +kernel
theorem dX9_createQueue_6 : decode cX9_createQueue 6 = .ok (.ireturn, 1) := by decide +kernel
theorem dX9_createSet_0 : decode cX9_createSet 0 = .ok (.aload_n 0, 1) := by decide +kernel
theorem dX9_createSet_1 : decode cX9_createSet 1 = .ok (.iconst 3, 1) := by decide +kernel
theorem dX9_createSet_2 : decode cX9_createSet 2 = .ok (.iconst 0, 1) := by decide +kernel
theorem dX9_createSet_3 : decode cX9_createSet 3 = .ok (.invokevirtual 110, 3) := by decide +kernel
theorem dX9_createSet_6 : decode cX9_createSet 6 = .ok (.ireturn, 1) := by decide +kernel
theorem dX9_objectCount_0 : decode cX9_objectCount 0 = .ok (.aload_n 0, 1) := by decide +kernel
theorem dX9_objectCount_1 : decode cX9_objectCount 1 = .ok (.getfield 97, 3) := by decide +kernel
theorem dX9_objectCount_4 : decode cX9_objectCount 4 = .ok (.ireturn, 1) := by decide +kernel
theorem dX9_typeOf_0 : decode cX9_typeOf 0 = .ok (.aload_n 0, 1) := by decide +kernel
theorem dX9_typeOf_1 : decode cX9_typeOf 1 = .ok (.iload_n 1, 1) := by decide +kernel
theorem dX9_typeOf_2 : decode cX9_typeOf 2 = .ok (.invokevirtual 114, 3) := by decide +kernel
theorem dX9_typeOf_5 : decode cX9_typeOf 5 = .ok (.ifCond .eq 12, 3) := by decide +kernel
theorem dX9_typeOf_8 : decode cX9_typeOf 8 = .ok (.aload_n 0, 1) := by decide +kernel
theorem dX9_typeOf_9 : decode cX9_typeOf 9 = .ok (.getfield 9, 3) := by decide +kernel
theorem dX9_typeOf_12 : decode cX9_typeOf 12 = .ok (.iload_n 1, 1) := by decide +kernel
theorem dX9_typeOf_13 : decode cX9_typeOf 13 = .ok (.iaload, 1) := by decide +kernel
theorem dX9_typeOf_14 : decode cX9_typeOf 14 = .ok (.goto 5, 3) := by decide +kernel
theorem dX9_typeOf_17 : decode cX9_typeOf 17 = .ok (.bipush (-2), 2) := by decide +kernel
theorem dX9_typeOf_19 : decode cX9_typeOf 19 = .ok (.ireturn, 1) := by decide +kernel
theorem dX9_reset_0 : decode cX9_reset 0 = .ok (.aload_n 0, 1) := by decide +kernel
theorem dX9_reset_1 : decode cX9_reset 1 = .ok (.getfield 104, 3) := by decide +kernel
theorem dX9_reset_4 : decode cX9_reset 4 = .ok (.istore_n 1, 1) := by decide +kernel
theorem dX9_reset_5 : decode cX9_reset 5 = .ok (.aload_n 0, 1) := by decide +kernel
theorem dX9_reset_6 : decode cX9_reset 6 = .ok (.iconst 0, 1) := by decide +kernel
theorem dX9_reset_7 : decode cX9_reset 7 = .ok (.putfield 97, 3) := by decide +kernel
theorem dX9_reset_10 : decode cX9_reset 10 = .ok (.aload_n 0, 1) := by decide +kernel
theorem dX9_reset_11 : decode cX9_reset 11 = .ok (.iconst 0, 1) := by decide +kernel
theorem dX9_reset_12 : decode cX9_reset 12 = .ok (.putfield 101, 3) := by decide +kernel
theorem dX9_reset_15 : decode cX9_reset 15 = .ok (.aload_n 0, 1) := by decide +kernel
theorem dX9_reset_16 : decode cX9_reset 16 = .ok (.iconst 0, 1) := by decide +kernel
theorem dX9_reset_17 : decode cX9_reset 17 = .ok (.putfield 104, 3) := by decide +kernel
theorem dX9_reset_20 : decode cX9_reset 20 = .ok (.aload_n 0, 1) := by decide +kernel
theorem dX9_reset_21 : decode cX9_reset 21 = .ok (.iconst 0, 1) := by decide +kernel
theorem dX9_reset_22 : decode cX9_reset 22 = .ok (.putfield 107, 3) := by decide +kernel
theorem dX9_reset_25 : decode cX9_reset 25 = .ok (.iload_n 1, 1) := by decide +kernel
theorem dX9_reset_26 : decode cX9_reset 26 = .ok (.ireturn, 1) := by decide +kernel
theorem dX9_typeFor_0 : decode cX9_typeFor 0 = .ok (.iload_n 0, 1) := by decide +kernel
theorem dX9_typeFor_1 : decode cX9_typeFor 1 = .ok (.iconst 2, 1) := by decide +kernel
theorem dX9_typeFor_2 : decode cX9_typeFor 2 = .ok (.if_icmp .gt 7, 3) := by decide +kernel
theorem dX9_typeFor_5 : decode cX9_typeFor 5 = .ok (.iconst 0, 1) := by decide +kernel
theorem dX9_typeFor_6 : decode cX9_typeFor 6 = .ok (.goto 23, 3) := by decide +kernel
theorem dX9_typeFor_9 : decode cX9_typeFor 9 = .ok (.iload_n 0, 1) := by decide +kernel
theorem dX9_typeFor_10 : decode cX9_typeFor 10 = .ok (.iconst 4, 1) := by decide +kernel
theorem dX9_typeFor_11 : decode cX9_typeFor 11 = .ok (.if_icmp .gt 7, 3) := by decide +kernel
theorem dX9_typeFor_14 : decode cX9_typeFor 14 = .ok (.iconst 1, 1) := by decide +kernel
theorem dX9_typeFor_15 : decode cX9_typeFor 15 = .ok (.goto 14, 3) := by decide +kernel
theorem dX9_typeFor_18 : decode cX9_typeFor 18 = .ok (.iload_n 0, 1) := by decide +kernel
theorem dX9_typeFor_19 : decode cX9_typeFor 19 = .ok (.bipush 6, 2) := by decide +kernel
theorem dX9_typeFor_21 : decode cX9_typeFor 21 = .ok (.if_icmp .gt 7, 3) := by decide +kernel
theorem dX9_typeFor_24 : decode cX9_typeFor 24 = .ok (.iconst 2, 1) := by decide +kernel
theorem dX9_typeFor_25 : decode cX9_typeFor 25 = .ok (.goto 4, 3) := by decide +kernel
theorem dX9_typeFor_28 : decode cX9_typeFor 28 = .ok (.iconst 3, 1) := by decide +kernel
theorem dX9_typeFor_29 : decode cX9_typeFor 29 = .ok (.ireturn, 1) := by decide +kernel
theorem dX9_isArgument_0 : decode cX9_isArgument 0 = .ok (.iload_n 0, 1) := by decide +kernel
theorem dX9_isArgument_1 : decode cX9_isArgument 1 = .ok (.iconst 4, 1) := by decide +kernel
theorem dX9_isArgument_2 : decode cX9_isArgument 2 = .ok (.if_icmp .ne 14, 3) := by decide +kernel
theorem dX9_isArgument_5 : decode cX9_isArgument 5 = .ok (.iload_n 1, 1) := by decide +kernel
theorem dX9_isArgument_6 : decode cX9_isArgument 6 = .ok (.bipush (-99), 2) := by decide +kernel
theorem dX9_isArgument_8 : decode cX9_isArgument 8 = .ok (.bipush 99, 2) := by decide +kernel
theorem dX9_isArgument_10 : decode cX9_isArgument 10 = .ok (.invokestatic 93, 3) := by decide +kernel
theorem dX9_isArgument_13 : decode cX9_isArgument 13 = .ok (.goto 10, 3) := by decide +kernel
theorem dX9_isArgument_16 : decode cX9_isArgument 16 = .ok (.iload_n 1, 1) := by decide +kernel
theorem dX9_isArgument_17 : decode cX9_isArgument 17 = .ok (.iconst 0, 1) := by decide +kernel
theorem dX9_isArgument_18 : decode cX9_isArgument 18 = .ok (.bipush 99, 2) := by decide +kernel
theorem dX9_isArgument_20 : decode cX9_isArgument 20 = .ok (.invokestatic 93, 3) := by decide +kernel
theorem dX9_isArgument_23 : decode cX9_isArgument 23 = .ok (.ireturn, 1) := by decide +kernel
theorem dX9_invoke_0 : decode cX9_invoke 0 = .ok (.iload_n 2, 1) := by decide +kernel
theorem dX9_invoke_1 : decode cX9_invoke 1 = .ok (.invokestatic 118, 3) := by decide +kernel
theorem dX9_invoke_4 : decode cX9_invoke 4 = .ok (.ifCond .ne 5, 3) := by decide +kernel
theorem dX9_invoke_7 : decode cX9_invoke 7 = .ok (.iconst (-1), 1) := by decide +kernel
theorem dX9_invoke_8 : decode cX9_invoke 8 = .ok (.ireturn, 1) := by decide +kernel
theorem dX9_invoke_9 : decode cX9_invoke 9 = .ok (.aload_n 0, 1) := by decide +kernel
theorem dX9_invoke_10 : decode cX9_invoke 10 = .ok (.iload_n 3, 1) := by decide +kernel
theorem dX9_invoke_11 : decode cX9_invoke 11 = .ok (.invokevirtual 114, 3) := by decide +kernel
theorem dX9_invoke_14 : decode cX9_invoke 14 = .ok (.ifCond .ne 6, 3) := by decide +kernel
theorem dX9_invoke_17 : decode cX9_invoke 17 = .ok (.bipush (-2), 2) := by decide +kernel
theorem dX9_invoke_19 : decode cX9_invoke 19 = .ok (.ireturn, 1) := by decide +kernel
theorem dX9_invoke_20 : decode cX9_invoke 20 = .ok (.aload_n 0, 1) := by decide +kernel
theorem dX9_invoke_21 : decode cX9_invoke 21 = .ok (.getfield 9, 3) := by decide +kernel
theorem dX9_invoke_24 : decode cX9_invoke 24 = .ok (.iload_n 3, 1) := by decide +kernel
theorem dX9_invoke_25 : decode cX9_invoke 25 = .ok (.iaload, 1) := by decide +kernel
theorem dX9_invoke_26 : decode cX9_invoke 26 = .ok (.iload_n 1, 1) := by decide +kernel
theorem dX9_invoke_27 : decode cX9_invoke 27 = .ok (.invokestatic 121, 3) := by decide +kernel
theorem dX9_invoke_30 : decode cX9_invoke 30 = .ok (.if_icmp .eq 6, 3) := by decide +kernel
theorem dX9_invoke_33 : decode cX9_invoke 33 = .ok (.bipush (-3), 2) := by decide +kernel
theorem dX9_invoke_35 : decode cX9_invoke 35 = .ok (.ireturn, 1) := by decide +kernel
theorem dX9_invoke_36 : decode cX9_invoke 36 = .ok (.iload_n 1, 1) := by decide +kernel
theorem dX9_invoke_37 : decode cX9_invoke 37 = .ok (.iload 4, 2) := by decide +kernel
theorem dX9_invoke_39 : decode cX9_invoke 39 = .ok (.invokestatic 125, 3) := by decide +kernel
theorem dX9_invoke_42 : decode cX9_invoke 42 = .ok (.ifCond .eq 12, 3) := by decide +kernel
theorem dX9_invoke_45 : decode cX9_invoke 45 = .ok (.iload_n 1, 1) := by decide +kernel
theorem dX9_invoke_46 : decode cX9_invoke 46 = .ok (.iload 5, 2) := by decide +kernel
theorem dX9_invoke_48 : decode cX9_invoke 48 = .ok (.invokestatic 125, 3) := by decide +kernel
theorem dX9_invoke_51 : decode cX9_invoke 51 = .ok (.ifCond .ne 6, 3) := by decide +kernel
theorem dX9_invoke_54 : decode cX9_invoke 54 = .ok (.bipush (-4), 2) := by decide +kernel
theorem dX9_invoke_56 : decode cX9_invoke 56 = .ok (.ireturn, 1) := by decide +kernel
theorem dX9_invoke_57 : decode cX9_invoke 57 = .ok (.aload_n 0, 1) := by decide +kernel
theorem dX9_invoke_58 : decode cX9_invoke 58 = .ok (.iload_n 2, 1) := by decide +kernel
theorem dX9_invoke_59 : decode cX9_invoke 59 = .ok (.invokevirtual 129, 3) := by decide +kernel
theorem dX9_invoke_62 : decode cX9_invoke 62 = .ok (.ifCond .eq 6, 3) := by decide +kernel
theorem dX9_invoke_65 : decode cX9_invoke 65 = .ok (.bipush (-5), 2) := by decide +kernel
theorem dX9_invoke_67 : decode cX9_invoke 67 = .ok (.ireturn, 1) := by decide +kernel
theorem dX9_invoke_68 : decode cX9_invoke 68 = .ok (.aload_n 0, 1) := by decide +kernel
theorem dX9_invoke_69 : decode cX9_invoke 69 = .ok (.iload_n 2, 1) := by decide +kernel
theorem dX9_invoke_70 : decode cX9_invoke 70 = .ok (.invokevirtual 132, 3) := by decide +kernel
theorem dX9_invoke_73 : decode cX9_invoke 73 = .ok (.bipush (-10), 2) := by decide +kernel
theorem dX9_invoke_75 : decode cX9_invoke 75 = .ok (.if_icmp .eq 6, 3) := by decide +kernel
theorem dX9_invoke_78 : decode cX9_invoke 78 = .ok (.bipush (-6), 2) := by decide +kernel
theorem dX9_invoke_80 : decode cX9_invoke 80 = .ok (.ireturn, 1) := by decide +kernel
theorem dX9_invoke_81 : decode cX9_invoke 81 = .ok (.aload_n 0, 1) := by decide +kernel
theorem dX9_invoke_82 : decode cX9_invoke 82 = .ok (.getfield 101, 3) := by decide +kernel
theorem dX9_invoke_85 : decode cX9_invoke 85 = .ok (.bipush 10, 2) := by decide +kernel
theorem dX9_invoke_87 : decode cX9_invoke 87 = .ok (.if_icmp .ne 6, 3) := by decide +kernel
theorem dX9_invoke_90 : decode cX9_invoke 90 = .ok (.bipush (-8), 2) := by decide +kernel
theorem dX9_invoke_92 : decode cX9_invoke 92 = .ok (.ireturn, 1) := by decide +kernel
theorem dX9_invoke_93 : decode cX9_invoke 93 = .ok (.aload_n 0, 1) := by decide +kernel
theorem dX9_invoke_94 : decode cX9_invoke 94 = .ok (.getfield 16, 3) := by decide +kernel
theorem dX9_invoke_97 : decode cX9_invoke 97 = .ok (.aload_n 0, 1) := by decide +kernel
theorem dX9_invoke_98 : decode cX9_invoke 98 = .ok (.getfield 101, 3) := by decide +kernel
theorem dX9_invoke_101 : decode cX9_invoke 101 = .ok (.iload_n 1, 1) := by decide +kernel
theorem dX9_invoke_102 : decode cX9_invoke 102 = .ok (.iastore, 1) := by decide +kernel
theorem dX9_invoke_103 : decode cX9_invoke 103 = .ok (.aload_n 0, 1) := by decide +kernel
theorem dX9_invoke_104 : decode cX9_invoke 104 = .ok (.getfield 19, 3) := by decide +kernel
theorem dX9_invoke_107 : decode cX9_invoke 107 = .ok (.aload_n 0, 1) := by decide +kernel
theorem dX9_invoke_108 : decode cX9_invoke 108 = .ok (.getfield 101, 3) := by decide +kernel
theorem dX9_invoke_111 : decode cX9_invoke 111 = .ok (.iload_n 2, 1) := by decide +kernel
theorem dX9_invoke_112 : decode cX9_invoke 112 = .ok (.iastore, 1) := by decide +kernel
theorem dX9_invoke_113 : decode cX9_invoke 113 = .ok (.aload_n 0, 1) := by decide +kernel
theorem dX9_invoke_114 : decode cX9_invoke 114 = .ok (.getfield 22, 3) := by decide +kernel
theorem dX9_invoke_117 : decode cX9_invoke 117 = .ok (.aload_n 0, 1) := by decide +kernel
theorem dX9_invoke_118 : decode cX9_invoke 118 = .ok (.getfield 101, 3) := by decide +kernel
theorem dX9_invoke_121 : decode cX9_invoke 121 = .ok (.iload_n 3, 1) := by decide +kernel
theorem dX9_invoke_122 : decode cX9_invoke 122 = .ok (.iastore, 1) := by decide +kernel
theorem dX9_invoke_123 : decode cX9_invoke 123 = .ok (.aload_n 0, 1) := by decide +kernel
theorem dX9_invoke_124 : decode cX9_invoke 124 = .ok (.getfield 25, 3) := by decide +kernel
theorem dX9_invoke_127 : decode cX9_invoke 127 = .ok (.aload_n 0, 1) := by decide +kernel
theorem dX9_invoke_128 : decode cX9_invoke 128 = .ok (.getfield 101, 3) := by decide +kernel
theorem dX9_invoke_131 : decode cX9_invoke 131 = .ok (.iload 4, 2) := by decide +kernel
theorem dX9_invoke_133 : decode cX9_invoke 133 = .ok (.iastore, 1) := by decide +kernel
theorem dX9_invoke_134 : decode cX9_invoke 134 = .ok (.aload_n 0, 1) := by decide +kernel
theorem dX9_invoke_135 : decode cX9_invoke 135 = .ok (.getfield 28, 3) := by decide +kernel
theorem dX9_invoke_138 : decode cX9_invoke 138 = .ok (.aload_n 0, 1) := by decide +kernel
theorem dX9_invoke_139 : decode cX9_invoke 139 = .ok (.getfield 101, 3) := by decide +kernel
theorem dX9_invoke_142 : decode cX9_invoke 142 = .ok (.iload 5, 2) := by decide +kernel
theorem dX9_invoke_144 : decode cX9_invoke 144 = .ok (.iastore, 1) := by decide +kernel
theorem dX9_invoke_145 : decode cX9_invoke 145 = .ok (.aload_n 0, 1) := by decide +kernel
theorem dX9_invoke_146 : decode cX9_invoke 146 = .ok (.getfield 34, 3) := by decide +kernel
theorem dX9_invoke_149 : decode cX9_invoke 149 = .ok (.aload_n 0, 1) := by decide +kernel
theorem dX9_invoke_150 : decode cX9_invoke 150 = .ok (.getfield 101, 3) := by decide +kernel
theorem dX9_invoke_153 : decode cX9_invoke 153 = .ok (.iconst (-1), 1) := by decide +kernel
theorem dX9_invoke_154 : decode cX9_invoke 154 = .ok (.iastore, 1) := by decide +kernel
theorem dX9_invoke_155 : decode cX9_invoke 155 = .ok (.aload_n 0, 1) := by decide +kernel
theorem dX9_invoke_156 : decode cX9_invoke 156 = .ok (.getfield 31, 3) := by decide +kernel
theorem dX9_invoke_159 : decode cX9_invoke 159 = .ok (.aload_n 0, 1) := by decide +kernel
theorem dX9_invoke_160 : decode cX9_invoke 160 = .ok (.getfield 101, 3) := by decide +kernel
theorem dX9_invoke_163 : decode cX9_invoke 163 = .ok (.aload_n 0, 1) := by decide +kernel
theorem dX9_invoke_164 : decode cX9_invoke 164 = .ok (.iconst 0, 1) := by decide +kernel
theorem dX9_invoke_165 : decode cX9_invoke 165 = .ok (.iload_n 2, 1) := by decide +kernel
theorem dX9_invoke_166 : decode cX9_invoke 166 = .ok (.aload_n 0, 1) := by decide +kernel
theorem dX9_invoke_167 : decode cX9_invoke 167 = .ok (.getfield 101, 3) := by decide +kernel
theorem dX9_invoke_170 : decode cX9_invoke 170 = .ok (.invokevirtual 135, 3) := by decide +kernel
theorem dX9_invoke_173 : decode cX9_invoke 173 = .ok (.iastore, 1) := by decide +kernel
theorem dX9_invoke_174 : decode cX9_invoke 174 = .ok (.aload_n 0, 1) := by decide +kernel
theorem dX9_invoke_175 : decode cX9_invoke 175 = .ok (.dup, 1) := by decide +kernel
theorem dX9_invoke_176 : decode cX9_invoke 176 = .ok (.getfield 101, 3) := by decide +kernel
theorem dX9_invoke_179 : decode cX9_invoke 179 = .ok (.iconst 1, 1) := by decide +kernel
theorem dX9_invoke_180 : decode cX9_invoke 180 = .ok (.iadd, 1) := by decide +kernel
theorem dX9_invoke_181 : decode cX9_invoke 181 = .ok (.putfield 101, 3) := by decide +kernel
theorem dX9_invoke_184 : decode cX9_invoke 184 = .ok (.aload_n 0, 1) := by decide +kernel
theorem dX9_invoke_185 : decode cX9_invoke 185 = .ok (.getfield 101, 3) := by decide +kernel
theorem dX9_invoke_188 : decode cX9_invoke 188 = .ok (.iconst 1, 1) := by decide +kernel
theorem dX9_invoke_189 : decode cX9_invoke 189 = .ok (.isub, 1) := by decide +kernel
theorem dX9_invoke_190 : decode cX9_invoke 190 = .ok (.ireturn, 1) := by decide +kernel
theorem dX9_invokeRead_0 : decode cX9_invokeRead 0 = .ok (.aload_n 0, 1) := by decide +kernel
theorem dX9_invokeRead_1 : decode cX9_invokeRead 1 = .ok (.iconst 0, 1) := by decide +kernel
theorem dX9_invokeRead_2 : decode cX9_invokeRead 2 = .ok (.iload_n 1, 1) := by decide +kernel
theorem dX9_invokeRead_3 : decode cX9_invokeRead 3 = .ok (.iload_n 2, 1) := by decide +kernel
theorem dX9_invokeRead_4 : decode cX9_invokeRead 4 = .ok (.iconst 0, 1) := by decide +kernel
theorem dX9_invokeRead_5 : decode cX9_invokeRead 5 = .ok (.iconst 0, 1) := by decide +kernel
theorem dX9_invokeRead_6 : decode cX9_invokeRead 6 = .ok (.invokevirtual 139, 3) := by decide +kernel
theorem dX9_invokeRead_9 : decode cX9_invokeRead 9 = .ok (.ireturn, 1) := by decide +kernel
theorem dX9_invokeWrite_0 : decode cX9_invokeWrite 0 = .ok (.aload_n 0, 1) := by decide +kernel
theorem dX9_invokeWrite_1 : decode cX9_invokeWrite 1 = .ok (.iconst 1, 1) := by decide +kernel
theorem dX9_invokeWrite_2 : decode cX9_invokeWrite 2 = .ok (.iload_n 1, 1) := by decide +kernel
theorem dX9_invokeWrite_3 : decode cX9_invokeWrite 3 = .ok (.iload_n 2, 1) := by decide +kernel
theorem dX9_invokeWrite_4 : decode cX9_invokeWrite 4 = .ok (.iload_n 3, 1) := by decide +kernel
theorem dX9_invokeWrite_5 : decode cX9_invokeWrite 5 = .ok (.iconst 0, 1) := by decide +kernel
theorem dX9_invokeWrite_6 : decode cX9_invokeWrite 6 = .ok (.invokevirtual 139, 3) := by decide +kernel
theorem dX9_invokeWrite_9 : decode cX9_invokeWrite 9 = .ok (.ireturn, 1) := by decide +kernel
theorem dX9_invokeCompareAndSet_0 : decode cX9_invokeCompareAndSet 0 = .ok (.aload_n 0, 1) := by decide +kernel
theorem dX9_invokeCompareAndSet_1 : decode cX9_invokeCompareAndSet 1 = .ok (.iconst 2, 1) := by decide +kernel
theorem dX9_invokeCompareAndSet_2 : decode cX9_invokeCompareAndSet 2 = .ok (.iload_n 1, 1) := by decide +kernel
theorem dX9_invokeCompareAndSet_3 : decode cX9_invokeCompareAndSet 3 = .ok (.iload_n 2, 1) := by decide +kernel
theorem dX9_invokeCompareAndSet_4 : decode cX9_invokeCompareAndSet 4 = .ok (.iload_n 3, 1) := by decide +kernel
theorem dX9_invokeCompareAndSet_5 : decode cX9_invokeCompareAndSet 5 = .ok (.iload 4, 2) := by decide +kernel
theorem dX9_invokeCompareAndSet_7 : decode cX9_invokeCompareAndSet 7 = .ok (.invokevirtual 139, 3) := by decide +kernel
theorem dX9_invokeCompareAndSet_10 : decode cX9_invokeCompareAndSet 10 = .ok (.ireturn, 1) := by decide +kernel
theorem dX9_invokeGet_0 : decode cX9_invokeGet 0 = .ok (.aload_n 0, 1) := by decide +kernel
theorem dX9_invokeGet_1 : decode cX9_invokeGet 1 = .ok (.iconst 3, 1) := by decide +kernel
theorem dX9_invokeGet_2 : decode cX9_invokeGet 2 = .ok (.iload_n 1, 1) := by decide +kernel
theorem dX9_invokeGet_3 : decode cX9_invokeGet 3 = .ok (.iload_n 2, 1) := by decide +kernel
theorem dX9_invokeGet_4 : decode cX9_invokeGet 4 = .ok (.iconst 0, 1) := by decide +kernel
theorem dX9_invokeGet_5 : decode cX9_invokeGet 5 = .ok (.iconst 0, 1) := by decide +kernel
theorem dX9_invokeGet_6 : decode cX9_invokeGet 6 = .ok (.invokevirtual 139, 3) := by decide +kernel
theorem dX9_invokeGet_9 : decode cX9_invokeGet 9 = .ok (.ireturn, 1) := by decide +kernel
theorem dX9_invokeAdd_0 : decode cX9_invokeAdd 0 = .ok (.aload_n 0, 1) := by decide +kernel
theorem dX9_invokeAdd_1 : decode cX9_invokeAdd 1 = .ok (.iconst 4, 1) := by decide +kernel
theorem dX9_invokeAdd_2 : decode cX9_invokeAdd 2 = .ok (.iload_n 1, 1) := by decide +kernel
theorem dX9_invokeAdd_3 : decode cX9_invokeAdd 3 = .ok (.iload_n 2, 1) := by decide +kernel
theorem dX9_invokeAdd_4 : decode cX9_invokeAdd 4 = .ok (.iload_n 3, 1) := by decide +kernel
theorem dX9_invokeAdd_5 : decode cX9_invokeAdd 5 = .ok (.iconst 0, 1) := by decide +kernel
theorem dX9_invokeAdd_6 : decode cX9_invokeAdd 6 = .ok (.invokevirtual 139, 3) := by decide +kernel
theorem dX9_invokeAdd_9 : decode cX9_invokeAdd 9 = .ok (.ireturn, 1) := by decide +kernel
theorem dX9_invokeEnqueue_0 : decode cX9_invokeEnqueue 0 = .ok (.aload_n 0, 1) := by decide +kernel
theorem dX9_invokeEnqueue_1 : decode cX9_invokeEnqueue 1 = .ok (.iconst 5, 1) := by decide +kernel
theorem dX9_invokeEnqueue_2 : decode cX9_invokeEnqueue 2 = .ok (.iload_n 1, 1) := by decide +kernel
theorem dX9_invokeEnqueue_3 : decode cX9_invokeEnqueue 3 = .ok (.iload_n 2, 1) := by decide +kernel
theorem dX9_invokeEnqueue_4 : decode cX9_invokeEnqueue 4 = .ok (.iload_n 3, 1) := by decide +kernel
theorem dX9_invokeEnqueue_5 : decode cX9_invokeEnqueue 5 = .ok (.iconst 0, 1) := by decide +kernel
theorem dX9_invokeEnqueue_6 : decode cX9_invokeEnqueue 6 = .ok (.invokevirtual 139, 3) := by decide +kernel
theorem dX9_invokeEnqueue_9 : decode cX9_invokeEnqueue 9 = .ok (.ireturn, 1) := by decide +kernel
theorem dX9_invokeDequeue_0 : decode cX9_invokeDequeue 0 = .ok (.aload_n 0, 1) := by decide +kernel
theorem dX9_invokeDequeue_1 : decode cX9_invokeDequeue 1 = .ok (.bipush 6, 2) := by decide +kernel
theorem dX9_invokeDequeue_3 : decode cX9_invokeDequeue 3 = .ok (.iload_n 1, 1) := by decide +kernel
theorem dX9_invokeDequeue_4 : decode cX9_invokeDequeue 4 = .ok (.iload_n 2, 1) := by decide +kernel
theorem dX9_invokeDequeue_5 : decode cX9_invokeDequeue 5 = .ok (.iconst 0, 1) := by decide +kernel
theorem dX9_invokeDequeue_6 : decode cX9_invokeDequeue 6 = .ok (.iconst 0, 1) := by decide +kernel
theorem dX9_invokeDequeue_7 : decode cX9_invokeDequeue 7 = .ok (.invokevirtual 139, 3) := by decide +kernel
theorem dX9_invokeDequeue_10 : decode cX9_invokeDequeue 10 = .ok (.ireturn, 1) := by decide +kernel
theorem dX9_invokeInsert_0 : decode cX9_invokeInsert 0 = .ok (.aload_n 0, 1) := by decide +kernel
theorem dX9_invokeInsert_1 : decode cX9_invokeInsert 1 = .ok (.bipush 7, 2) := by decide +kernel
theorem dX9_invokeInsert_3 : decode cX9_invokeInsert 3 = .ok (.iload_n 1, 1) := by decide +kernel
theorem dX9_invokeInsert_4 : decode cX9_invokeInsert 4 = .ok (.iload_n 2, 1) := by decide +kernel
theorem dX9_invokeInsert_5 : decode cX9_invokeInsert 5 = .ok (.iload_n 3, 1) := by decide +kernel
theorem dX9_invokeInsert_6 : decode cX9_invokeInsert 6 = .ok (.iconst 0, 1) := by decide +kernel
theorem dX9_invokeInsert_7 : decode cX9_invokeInsert 7 = .ok (.invokevirtual 139, 3) := by decide +kernel
theorem dX9_invokeInsert_10 : decode cX9_invokeInsert 10 = .ok (.ireturn, 1) := by decide +kernel
theorem dX9_invokeRemove_0 : decode cX9_invokeRemove 0 = .ok (.aload_n 0, 1) := by decide +kernel
theorem dX9_invokeRemove_1 : decode cX9_invokeRemove 1 = .ok (.bipush 8, 2) := by decide +kernel
theorem dX9_invokeRemove_3 : decode cX9_invokeRemove 3 = .ok (.iload_n 1, 1) := by decide +kernel
theorem dX9_invokeRemove_4 : decode cX9_invokeRemove 4 = .ok (.iload_n 2, 1) := by decide +kernel
theorem dX9_invokeRemove_5 : decode cX9_invokeRemove 5 = .ok (.iload_n 3, 1) := by decide +kernel
theorem dX9_invokeRemove_6 : decode cX9_invokeRemove 6 = .ok (.iconst 0, 1) := by decide +kernel
theorem dX9_invokeRemove_7 : decode cX9_invokeRemove 7 = .ok (.invokevirtual 139, 3) := by decide +kernel
theorem dX9_invokeRemove_10 : decode cX9_invokeRemove 10 = .ok (.ireturn, 1) := by decide +kernel
theorem dX9_invokeContains_0 : decode cX9_invokeContains 0 = .ok (.aload_n 0, 1) := by decide +kernel
theorem dX9_invokeContains_1 : decode cX9_invokeContains 1 = .ok (.bipush 9, 2) := by decide +kernel
theorem dX9_invokeContains_3 : decode cX9_invokeContains 3 = .ok (.iload_n 1, 1) := by decide +kernel
theorem dX9_invokeContains_4 : decode cX9_invokeContains 4 = .ok (.iload_n 2, 1) := by decide +kernel
theorem dX9_invokeContains_5 : decode cX9_invokeContains 5 = .ok (.iload_n 3, 1) := by decide +kernel
theorem dX9_invokeContains_6 : decode cX9_invokeContains 6 = .ok (.iconst 0, 1) := by decide +kernel
theorem dX9_invokeContains_7 : decode cX9_invokeContains 7 = .ok (.invokevirtual 139, 3) := by decide +kernel
theorem dX9_invokeContains_10 : decode cX9_invokeContains 10 = .ok (.ireturn, 1) := by decide +kernel
theorem dX9_minResult_0 : decode cX9_minResult 0 = .ok (.iload_n 0, 1) := by decide +kernel
theorem dX9_minResult_1 : decode cX9_minResult 1 = .ok (.iconst 3, 1) := by decide +kernel
theorem dX9_minResult_2 : decode cX9_minResult 2 = .ok (.if_icmp .eq 8, 3) := by decide +kernel
theorem dX9_minResult_5 : decode cX9_minResult 5 = .ok (.iload_n 0, 1) := by decide +kernel
theorem dX9_minResult_6 : decode cX9_minResult 6 = .ok (.iconst 4, 1) := by decide +kernel
theorem dX9_minResult_7 : decode cX9_minResult 7 = .ok (.if_icmp .ne 9, 3) := by decide +kernel
theorem dX9_minResult_10 : decode cX9_minResult 10 = .ok (.sipush (-999), 3) := by decide +kernel
theorem dX9_minResult_13 : decode cX9_minResult 13 = .ok (.goto 14, 3) := by decide +kernel
theorem dX9_minResult_16 : decode cX9_minResult 16 = .ok (.iload_n 0, 1) := by decide +kernel
theorem dX9_minResult_17 : decode cX9_minResult 17 = .ok (.bipush 6, 2) := by decide +kernel
theorem dX9_minResult_19 : decode cX9_minResult 19 = .ok (.if_icmp .ne 7, 3) := by decide +kernel
theorem dX9_minResult_22 : decode cX9_minResult 22 = .ok (.iconst (-1), 1) := by decide +kernel
theorem dX9_minResult_23 : decode cX9_minResult 23 = .ok (.goto 4, 3) := by decide +kernel
theorem dX9_minResult_26 : decode cX9_minResult 26 = .ok (.iconst 0, 1) := by decide +kernel
theorem dX9_minResult_27 : decode cX9_minResult 27 = .ok (.ireturn, 1) := by decide +kernel
theorem dX9_maxResult_0 : decode cX9_maxResult 0 = .ok (.iload_n 0, 1) := by decide +kernel
theorem dX9_maxResult_1 : decode cX9_maxResult 1 = .ok (.tableswitch 52 0 6 #[43, 46, 52, 48, 48, 46, 43], 43) := by decide +kernel
theorem dX9_maxResult_44 : decode cX9_maxResult 44 = .ok (.bipush 99, 2) := by decide +kernel
theorem dX9_maxResult_46 : decode cX9_maxResult 46 = .ok (.ireturn, 1) := by decide +kernel
theorem dX9_maxResult_47 : decode cX9_maxResult 47 = .ok (.iconst 0, 1) := by decide +kernel
theorem dX9_maxResult_48 : decode cX9_maxResult 48 = .ok (.ireturn, 1) := by decide +kernel
theorem dX9_maxResult_49 : decode cX9_maxResult 49 = .ok (.sipush 999, 3) := by decide +kernel
theorem dX9_maxResult_52 : decode cX9_maxResult 52 = .ok (.ireturn, 1) := by decide +kernel
theorem dX9_maxResult_53 : decode cX9_maxResult 53 = .ok (.iconst 1, 1) := by decide +kernel
theorem dX9_maxResult_54 : decode cX9_maxResult 54 = .ok (.ireturn, 1) := by decide +kernel
theorem dX9_mayRespond_0 : decode cX9_mayRespond 0 = .ok (.iload_n 1, 1) := by decide +kernel
theorem dX9_mayRespond_1 : decode cX9_mayRespond 1 = .ok (.invokestatic 118, 3) := by decide +kernel
theorem dX9_mayRespond_4 : decode cX9_mayRespond 4 = .ok (.ifCond .ne 5, 3) := by decide +kernel
theorem dX9_mayRespond_7 : decode cX9_mayRespond 7 = .ok (.iconst (-1), 1) := by decide +kernel
theorem dX9_mayRespond_8 : decode cX9_mayRespond 8 = .ok (.ireturn, 1) := by decide +kernel
theorem dX9_mayRespond_9 : decode cX9_mayRespond 9 = .ok (.aload_n 0, 1) := by decide +kernel
theorem dX9_mayRespond_10 : decode cX9_mayRespond 10 = .ok (.iload_n 1, 1) := by decide +kernel
theorem dX9_mayRespond_11 : decode cX9_mayRespond 11 = .ok (.invokevirtual 129, 3) := by decide +kernel
theorem dX9_mayRespond_14 : decode cX9_mayRespond 14 = .ok (.ifCond .eq 6, 3) := by decide +kernel
theorem dX9_mayRespond_17 : decode cX9_mayRespond 17 = .ok (.bipush (-5), 2) := by decide +kernel
theorem dX9_mayRespond_19 : decode cX9_mayRespond 19 = .ok (.ireturn, 1) := by decide +kernel
theorem dX9_mayRespond_20 : decode cX9_mayRespond 20 = .ok (.aload_n 0, 1) := by decide +kernel
theorem dX9_mayRespond_21 : decode cX9_mayRespond 21 = .ok (.iload_n 1, 1) := by decide +kernel
theorem dX9_mayRespond_22 : decode cX9_mayRespond 22 = .ok (.invokevirtual 132, 3) := by decide +kernel
theorem dX9_mayRespond_25 : decode cX9_mayRespond 25 = .ok (.istore_n 2, 1) := by decide +kernel
theorem dX9_mayRespond_26 : decode cX9_mayRespond 26 = .ok (.iload_n 2, 1) := by decide +kernel
theorem dX9_mayRespond_27 : decode cX9_mayRespond 27 = .ok (.bipush (-10), 2) := by decide +kernel
theorem dX9_mayRespond_29 : decode cX9_mayRespond 29 = .ok (.if_icmp .ne 8, 3) := by decide +kernel
theorem dX9_mayRespond_32 : decode cX9_mayRespond 32 = .ok (.bipush (-7), 2) := by decide +kernel
theorem dX9_mayRespond_34 : decode cX9_mayRespond 34 = .ok (.goto 4, 3) := by decide +kernel
theorem dX9_mayRespond_37 : decode cX9_mayRespond 37 = .ok (.iload_n 2, 1) := by decide +kernel
theorem dX9_mayRespond_38 : decode cX9_mayRespond 38 = .ok (.ireturn, 1) := by decide +kernel
theorem dX9_mayRespondWith_0 : decode cX9_mayRespondWith 0 = .ok (.aload_n 0, 1) := by decide +kernel
theorem dX9_mayRespondWith_1 : decode cX9_mayRespondWith 1 = .ok (.iload_n 1, 1) := by decide +kernel
theorem dX9_mayRespondWith_2 : decode cX9_mayRespondWith 2 = .ok (.invokevirtual 143, 3) := by decide +kernel
theorem dX9_mayRespondWith_5 : decode cX9_mayRespondWith 5 = .ok (.istore_n 3, 1) := by decide +kernel
theorem dX9_mayRespondWith_6 : decode cX9_mayRespondWith 6 = .ok (.iload_n 3, 1) := by decide +kernel
theorem dX9_mayRespondWith_7 : decode cX9_mayRespondWith 7 = .ok (.ifCond .lt 28, 3) := by decide +kernel
theorem dX9_mayRespondWith_10 : decode cX9_mayRespondWith 10 = .ok (.iload_n 2, 1) := by decide +kernel
theorem dX9_mayRespondWith_11 : decode cX9_mayRespondWith 11 = .ok (.aload_n 0, 1) := by decide +kernel
theorem dX9_mayRespondWith_12 : decode cX9_mayRespondWith 12 = .ok (.getfield 16, 3) := by decide +kernel
theorem dX9_mayRespondWith_15 : decode cX9_mayRespondWith 15 = .ok (.iload_n 3, 1) := by decide +kernel
theorem dX9_mayRespondWith_16 : decode cX9_mayRespondWith 16 = .ok (.iaload, 1) := by decide +kernel
theorem dX9_mayRespondWith_17 : decode cX9_mayRespondWith 17 = .ok (.invokestatic 146, 3) := by decide +kernel
theorem dX9_mayRespondWith_20 : decode cX9_mayRespondWith 20 = .ok (.aload_n 0, 1) := by decide +kernel
theorem dX9_mayRespondWith_21 : decode cX9_mayRespondWith 21 = .ok (.getfield 16, 3) := by decide +kernel
theorem dX9_mayRespondWith_24 : decode cX9_mayRespondWith 24 = .ok (.iload_n 3, 1) := by decide +kernel
theorem dX9_mayRespondWith_25 : decode cX9_mayRespondWith 25 = .ok (.iaload, 1) := by decide +kernel
theorem dX9_mayRespondWith_26 : decode cX9_mayRespondWith 26 = .ok (.invokestatic 149, 3) := by decide +kernel
theorem dX9_mayRespondWith_29 : decode cX9_mayRespondWith 29 = .ok (.invokestatic 93, 3) := by decide +kernel
theorem dX9_mayRespondWith_32 : decode cX9_mayRespondWith 32 = .ok (.ifCond .eq 7, 3) := by decide +kernel
theorem dX9_mayRespondWith_35 : decode cX9_mayRespondWith 35 = .ok (.iload_n 3, 1) := by decide +kernel
theorem dX9_mayRespondWith_36 : decode cX9_mayRespondWith 36 = .ok (.goto 5, 3) := by decide +kernel
theorem dX9_mayRespondWith_39 : decode cX9_mayRespondWith 39 = .ok (.bipush (-4), 2) := by decide +kernel
theorem dX9_mayRespondWith_41 : decode cX9_mayRespondWith 41 = .ok (.ireturn, 1) := by decide +kernel
theorem dX9_respond_0 : decode cX9_respond 0 = .ok (.aload_n 0, 1) := by decide +kernel
theorem dX9_respond_1 : decode cX9_respond 1 = .ok (.iload_n 1, 1) := by decide +kernel
theorem dX9_respond_2 : decode cX9_respond 2 = .ok (.iload_n 2, 1) := by decide +kernel
theorem dX9_respond_3 : decode cX9_respond 3 = .ok (.invokevirtual 152, 3) := by decide +kernel
theorem dX9_respond_6 : decode cX9_respond 6 = .ok (.istore_n 3, 1) := by decide +kernel
theorem dX9_respond_7 : decode cX9_respond 7 = .ok (.iload_n 3, 1) := by decide +kernel
theorem dX9_respond_8 : decode cX9_respond 8 = .ok (.ifCond .lt 23, 3) := by decide +kernel
theorem dX9_respond_11 : decode cX9_respond 11 = .ok (.aload_n 0, 1) := by decide +kernel
theorem dX9_respond_12 : decode cX9_respond 12 = .ok (.getfield 37, 3) := by decide +kernel
theorem dX9_respond_15 : decode cX9_respond 15 = .ok (.iload_n 3, 1) := by decide +kernel
theorem dX9_respond_16 : decode cX9_respond 16 = .ok (.iload_n 2, 1) := by decide +kernel
theorem dX9_respond_17 : decode cX9_respond 17 = .ok (.iastore, 1) := by decide +kernel
theorem dX9_respond_18 : decode cX9_respond 18 = .ok (.aload_n 0, 1) := by decide +kernel
theorem dX9_respond_19 : decode cX9_respond 19 = .ok (.getfield 34, 3) := by decide +kernel
theorem dX9_respond_22 : decode cX9_respond 22 = .ok (.iload_n 3, 1) := by decide +kernel
theorem dX9_respond_23 : decode cX9_respond 23 = .ok (.aload_n 0, 1) := by decide +kernel
theorem dX9_respond_24 : decode cX9_respond 24 = .ok (.iconst 1, 1) := by decide +kernel
theorem dX9_respond_25 : decode cX9_respond 25 = .ok (.iload_n 1, 1) := by decide +kernel
theorem dX9_respond_26 : decode cX9_respond 26 = .ok (.iload_n 3, 1) := by decide +kernel
theorem dX9_respond_27 : decode cX9_respond 27 = .ok (.invokevirtual 135, 3) := by decide +kernel
theorem dX9_respond_30 : decode cX9_respond 30 = .ok (.iastore, 1) := by decide +kernel
theorem dX9_respond_31 : decode cX9_respond 31 = .ok (.iload_n 3, 1) := by decide +kernel
theorem dX9_respond_32 : decode cX9_respond 32 = .ok (.ireturn, 1) := by decide +kernel
theorem dX9_crash_0 : decode cX9_crash 0 = .ok (.iload_n 1, 1) := by decide +kernel
theorem dX9_crash_1 : decode cX9_crash 1 = .ok (.invokestatic 118, 3) := by decide +kernel
theorem dX9_crash_4 : decode cX9_crash 4 = .ok (.ifCond .ne 5, 3) := by decide +kernel
theorem dX9_crash_7 : decode cX9_crash 7 = .ok (.iconst (-1), 1) := by decide +kernel
theorem dX9_crash_8 : decode cX9_crash 8 = .ok (.ireturn, 1) := by decide +kernel
theorem dX9_crash_9 : decode cX9_crash 9 = .ok (.aload_n 0, 1) := by decide +kernel
theorem dX9_crash_10 : decode cX9_crash 10 = .ok (.iload_n 1, 1) := by decide +kernel
theorem dX9_crash_11 : decode cX9_crash 11 = .ok (.invokevirtual 129, 3) := by decide +kernel
theorem dX9_crash_14 : decode cX9_crash 14 = .ok (.ifCond .eq 8, 3) := by decide +kernel
theorem dX9_crash_17 : decode cX9_crash 17 = .ok (.bipush (-5), 2) := by decide +kernel
theorem dX9_crash_19 : decode cX9_crash 19 = .ok (.goto 11, 3) := by decide +kernel
theorem dX9_crash_22 : decode cX9_crash 22 = .ok (.aload_n 0, 1) := by decide +kernel
theorem dX9_crash_23 : decode cX9_crash 23 = .ok (.iconst 2, 1) := by decide +kernel
theorem dX9_crash_24 : decode cX9_crash 24 = .ok (.iload_n 1, 1) := by decide +kernel
theorem dX9_crash_25 : decode cX9_crash 25 = .ok (.bipush (-10), 2) := by decide +kernel
theorem dX9_crash_27 : decode cX9_crash 27 = .ok (.invokevirtual 135, 3) := by decide +kernel
theorem dX9_crash_30 : decode cX9_crash 30 = .ok (.ireturn, 1) := by decide +kernel
theorem dX9_undo_0 : decode cX9_undo 0 = .ok (.aload_n 0, 1) := by decide +kernel
theorem dX9_undo_1 : decode cX9_undo 1 = .ok (.getfield 104, 3) := by decide +kernel
theorem dX9_undo_4 : decode cX9_undo 4 = .ok (.ifCond .ne 6, 3) := by decide +kernel
theorem dX9_undo_7 : decode cX9_undo 7 = .ok (.bipush (-11), 2) := by decide +kernel
theorem dX9_undo_9 : decode cX9_undo 9 = .ok (.ireturn, 1) := by decide +kernel
theorem dX9_undo_10 : decode cX9_undo 10 = .ok (.aload_n 0, 1) := by decide +kernel
theorem dX9_undo_11 : decode cX9_undo 11 = .ok (.dup, 1) := by decide +kernel
theorem dX9_undo_12 : decode cX9_undo 12 = .ok (.getfield 104, 3) := by decide +kernel
theorem dX9_undo_15 : decode cX9_undo 15 = .ok (.iconst 1, 1) := by decide +kernel
theorem dX9_undo_16 : decode cX9_undo 16 = .ok (.isub, 1) := by decide +kernel
theorem dX9_undo_17 : decode cX9_undo 17 = .ok (.putfield 104, 3) := by decide +kernel
theorem dX9_undo_20 : decode cX9_undo 20 = .ok (.aload_n 0, 1) := by decide +kernel
theorem dX9_undo_21 : decode cX9_undo 21 = .ok (.iconst 0, 1) := by decide +kernel
theorem dX9_undo_22 : decode cX9_undo 22 = .ok (.putfield 107, 3) := by decide +kernel
theorem dX9_undo_25 : decode cX9_undo 25 = .ok (.aload_n 0, 1) := by decide +kernel
theorem dX9_undo_26 : decode cX9_undo 26 = .ok (.getfield 40, 3) := by decide +kernel
theorem dX9_undo_29 : decode cX9_undo 29 = .ok (.aload_n 0, 1) := by decide +kernel
theorem dX9_undo_30 : decode cX9_undo 30 = .ok (.getfield 104, 3) := by decide +kernel
theorem dX9_undo_33 : decode cX9_undo 33 = .ok (.iaload, 1) := by decide +kernel
theorem dX9_undo_34 : decode cX9_undo 34 = .ok (.ifCond .ne 16, 3) := by decide +kernel
theorem dX9_undo_37 : decode cX9_undo 37 = .ok (.aload_n 0, 1) := by decide +kernel
theorem dX9_undo_38 : decode cX9_undo 38 = .ok (.dup, 1) := by decide +kernel
theorem dX9_undo_39 : decode cX9_undo 39 = .ok (.getfield 101, 3) := by decide +kernel
theorem dX9_undo_42 : decode cX9_undo 42 = .ok (.iconst 1, 1) := by decide +kernel
theorem dX9_undo_43 : decode cX9_undo 43 = .ok (.isub, 1) := by decide +kernel
theorem dX9_undo_44 : decode cX9_undo 44 = .ok (.putfield 101, 3) := by decide +kernel
theorem dX9_undo_47 : decode cX9_undo 47 = .ok (.goto 31, 3) := by decide +kernel
theorem dX9_undo_50 : decode cX9_undo 50 = .ok (.aload_n 0, 1) := by decide +kernel
theorem dX9_undo_51 : decode cX9_undo 51 = .ok (.getfield 40, 3) := by decide +kernel
theorem dX9_undo_54 : decode cX9_undo 54 = .ok (.aload_n 0, 1) := by decide +kernel
theorem dX9_undo_55 : decode cX9_undo 55 = .ok (.getfield 104, 3) := by decide +kernel
theorem dX9_undo_58 : decode cX9_undo 58 = .ok (.iaload, 1) := by decide +kernel
theorem dX9_undo_59 : decode cX9_undo 59 = .ok (.iconst 1, 1) := by decide +kernel
theorem dX9_undo_60 : decode cX9_undo 60 = .ok (.if_icmp .ne 18, 3) := by decide +kernel
theorem dX9_undo_63 : decode cX9_undo 63 = .ok (.aload_n 0, 1) := by decide +kernel
theorem dX9_undo_64 : decode cX9_undo 64 = .ok (.getfield 34, 3) := by decide +kernel
theorem dX9_undo_67 : decode cX9_undo 67 = .ok (.aload_n 0, 1) := by decide +kernel
theorem dX9_undo_68 : decode cX9_undo 68 = .ok (.getfield 46, 3) := by decide +kernel
theorem dX9_undo_71 : decode cX9_undo 71 = .ok (.aload_n 0, 1) := by decide +kernel
theorem dX9_undo_72 : decode cX9_undo 72 = .ok (.getfield 104, 3) := by decide +kernel
theorem dX9_undo_75 : decode cX9_undo 75 = .ok (.iaload, 1) := by decide +kernel
theorem dX9_undo_76 : decode cX9_undo 76 = .ok (.iconst (-1), 1) := by decide +kernel
theorem dX9_undo_77 : decode cX9_undo 77 = .ok (.iastore, 1) := by decide +kernel
theorem dX9_undo_78 : decode cX9_undo 78 = .ok (.aload_n 0, 1) := by decide +kernel
theorem dX9_undo_79 : decode cX9_undo 79 = .ok (.getfield 104, 3) := by decide +kernel
theorem dX9_undo_82 : decode cX9_undo 82 = .ok (.ireturn, 1) := by decide +kernel
theorem dX9_eventCount_0 : decode cX9_eventCount 0 = .ok (.aload_n 0, 1) := by decide +kernel
theorem dX9_eventCount_1 : decode cX9_eventCount 1 = .ok (.getfield 104, 3) := by decide +kernel
theorem dX9_eventCount_4 : decode cX9_eventCount 4 = .ok (.ireturn, 1) := by decide +kernel
theorem dX9_operationCount_0 : decode cX9_operationCount 0 = .ok (.aload_n 0, 1) := by decide +kernel
theorem dX9_operationCount_1 : decode cX9_operationCount 1 = .ok (.getfield 101, 3) := by decide +kernel
theorem dX9_operationCount_4 : decode cX9_operationCount 4 = .ok (.ireturn, 1) := by decide +kernel
theorem dX9_kindOf_0 : decode cX9_kindOf 0 = .ok (.aload_n 0, 1) := by decide +kernel
theorem dX9_kindOf_1 : decode cX9_kindOf 1 = .ok (.iload_n 1, 1) := by decide +kernel
theorem dX9_kindOf_2 : decode cX9_kindOf 2 = .ok (.invokevirtual 155, 3) := by decide +kernel
theorem dX9_kindOf_5 : decode cX9_kindOf 5 = .ok (.ifCond .eq 12, 3) := by decide +kernel
theorem dX9_kindOf_8 : decode cX9_kindOf 8 = .ok (.aload_n 0, 1) := by decide +kernel
theorem dX9_kindOf_9 : decode cX9_kindOf 9 = .ok (.getfield 16, 3) := by decide +kernel
theorem dX9_kindOf_12 : decode cX9_kindOf 12 = .ok (.iload_n 1, 1) := by decide +kernel
theorem dX9_kindOf_13 : decode cX9_kindOf 13 = .ok (.iaload, 1) := by decide +kernel
theorem dX9_kindOf_14 : decode cX9_kindOf 14 = .ok (.goto 5, 3) := by decide +kernel
theorem dX9_kindOf_17 : decode cX9_kindOf 17 = .ok (.bipush (-9), 2) := by decide +kernel
theorem dX9_kindOf_19 : decode cX9_kindOf 19 = .ok (.ireturn, 1) := by decide +kernel
theorem dX9_threadOf_0 : decode cX9_threadOf 0 = .ok (.aload_n 0, 1) := by decide +kernel
theorem dX9_threadOf_1 : decode cX9_threadOf 1 = .ok (.iload_n 1, 1) := by decide +kernel
theorem dX9_threadOf_2 : decode cX9_threadOf 2 = .ok (.invokevirtual 155, 3) := by decide +kernel
theorem dX9_threadOf_5 : decode cX9_threadOf 5 = .ok (.ifCond .eq 12, 3) := by decide +kernel
theorem dX9_threadOf_8 : decode cX9_threadOf 8 = .ok (.aload_n 0, 1) := by decide +kernel
theorem dX9_threadOf_9 : decode cX9_threadOf 9 = .ok (.getfield 19, 3) := by decide +kernel
theorem dX9_threadOf_12 : decode cX9_threadOf 12 = .ok (.iload_n 1, 1) := by decide +kernel
theorem dX9_threadOf_13 : decode cX9_threadOf 13 = .ok (.iaload, 1) := by decide +kernel
theorem dX9_threadOf_14 : decode cX9_threadOf 14 = .ok (.goto 5, 3) := by decide +kernel
theorem dX9_threadOf_17 : decode cX9_threadOf 17 = .ok (.bipush (-9), 2) := by decide +kernel
theorem dX9_threadOf_19 : decode cX9_threadOf 19 = .ok (.ireturn, 1) := by decide +kernel
theorem dX9_objectOf_0 : decode cX9_objectOf 0 = .ok (.aload_n 0, 1) := by decide +kernel
theorem dX9_objectOf_1 : decode cX9_objectOf 1 = .ok (.iload_n 1, 1) := by decide +kernel
theorem dX9_objectOf_2 : decode cX9_objectOf 2 = .ok (.invokevirtual 155, 3) := by decide +kernel
theorem dX9_objectOf_5 : decode cX9_objectOf 5 = .ok (.ifCond .eq 12, 3) := by decide +kernel
theorem dX9_objectOf_8 : decode cX9_objectOf 8 = .ok (.aload_n 0, 1) := by decide +kernel
theorem dX9_objectOf_9 : decode cX9_objectOf 9 = .ok (.getfield 22, 3) := by decide +kernel
theorem dX9_objectOf_12 : decode cX9_objectOf 12 = .ok (.iload_n 1, 1) := by decide +kernel
theorem dX9_objectOf_13 : decode cX9_objectOf 13 = .ok (.iaload, 1) := by decide +kernel
theorem dX9_objectOf_14 : decode cX9_objectOf 14 = .ok (.goto 5, 3) := by decide +kernel
theorem dX9_objectOf_17 : decode cX9_objectOf 17 = .ok (.bipush (-9), 2) := by decide +kernel
theorem dX9_objectOf_19 : decode cX9_objectOf 19 = .ok (.ireturn, 1) := by decide +kernel
theorem dX9_invocationTime_0 : decode cX9_invocationTime 0 = .ok (.aload_n 0, 1) := by decide +kernel
theorem dX9_invocationTime_1 : decode cX9_invocationTime 1 = .ok (.iload_n 1, 1) := by decide +kernel
theorem dX9_invocationTime_2 : decode cX9_invocationTime 2 = .ok (.invokevirtual 155, 3) := by decide +kernel
theorem dX9_invocationTime_5 : decode cX9_invocationTime 5 = .ok (.ifCond .eq 12, 3) := by decide +kernel
theorem dX9_invocationTime_8 : decode cX9_invocationTime 8 = .ok (.aload_n 0, 1) := by decide +kernel
theorem dX9_invocationTime_9 : decode cX9_invocationTime 9 = .ok (.getfield 31, 3) := by decide +kernel
theorem dX9_invocationTime_12 : decode cX9_invocationTime 12 = .ok (.iload_n 1, 1) := by decide +kernel
theorem dX9_invocationTime_13 : decode cX9_invocationTime 13 = .ok (.iaload, 1) := by decide +kernel
theorem dX9_invocationTime_14 : decode cX9_invocationTime 14 = .ok (.goto 5, 3) := by decide +kernel
theorem dX9_invocationTime_17 : decode cX9_invocationTime 17 = .ok (.bipush (-9), 2) := by decide +kernel
theorem dX9_invocationTime_19 : decode cX9_invocationTime 19 = .ok (.ireturn, 1) := by decide +kernel
theorem dX9_responseTime_0 : decode cX9_responseTime 0 = .ok (.aload_n 0, 1) := by decide +kernel
theorem dX9_responseTime_1 : decode cX9_responseTime 1 = .ok (.iload_n 1, 1) := by decide +kernel
theorem dX9_responseTime_2 : decode cX9_responseTime 2 = .ok (.invokevirtual 155, 3) := by decide +kernel
theorem dX9_responseTime_5 : decode cX9_responseTime 5 = .ok (.ifCond .ne 6, 3) := by decide +kernel
theorem dX9_responseTime_8 : decode cX9_responseTime 8 = .ok (.bipush (-9), 2) := by decide +kernel
theorem dX9_responseTime_10 : decode cX9_responseTime 10 = .ok (.ireturn, 1) := by decide +kernel
theorem dX9_responseTime_11 : decode cX9_responseTime 11 = .ok (.aload_n 0, 1) := by decide +kernel
theorem dX9_responseTime_12 : decode cX9_responseTime 12 = .ok (.getfield 34, 3) := by decide +kernel
theorem dX9_responseTime_15 : decode cX9_responseTime 15 = .ok (.iload_n 1, 1) := by decide +kernel
theorem dX9_responseTime_16 : decode cX9_responseTime 16 = .ok (.iaload, 1) := by decide +kernel
theorem dX9_responseTime_17 : decode cX9_responseTime 17 = .ok (.iconst (-1), 1) := by decide +kernel
theorem dX9_responseTime_18 : decode cX9_responseTime 18 = .ok (.if_icmp .ne 8, 3) := by decide +kernel
theorem dX9_responseTime_21 : decode cX9_responseTime 21 = .ok (.bipush (-10), 2) := by decide +kernel
theorem dX9_responseTime_23 : decode cX9_responseTime 23 = .ok (.goto 9, 3) := by decide +kernel
theorem dX9_responseTime_26 : decode cX9_responseTime 26 = .ok (.aload_n 0, 1) := by decide +kernel
theorem dX9_responseTime_27 : decode cX9_responseTime 27 = .ok (.getfield 34, 3) := by decide +kernel
theorem dX9_responseTime_30 : decode cX9_responseTime 30 = .ok (.iload_n 1, 1) := by decide +kernel
theorem dX9_responseTime_31 : decode cX9_responseTime 31 = .ok (.iaload, 1) := by decide +kernel
theorem dX9_responseTime_32 : decode cX9_responseTime 32 = .ok (.ireturn, 1) := by decide +kernel
theorem dX9_resultOf_0 : decode cX9_resultOf 0 = .ok (.aload_n 0, 1) := by decide +kernel
theorem dX9_resultOf_1 : decode cX9_resultOf 1 = .ok (.iload_n 1, 1) := by decide +kernel
theorem dX9_resultOf_2 : decode cX9_resultOf 2 = .ok (.invokevirtual 155, 3) := by decide +kernel
theorem dX9_resultOf_5 : decode cX9_resultOf 5 = .ok (.ifCond .ne 6, 3) := by decide +kernel
theorem dX9_resultOf_8 : decode cX9_resultOf 8 = .ok (.bipush (-9), 2) := by decide +kernel
theorem dX9_resultOf_10 : decode cX9_resultOf 10 = .ok (.ireturn, 1) := by decide +kernel
theorem dX9_resultOf_11 : decode cX9_resultOf 11 = .ok (.aload_n 0, 1) := by decide +kernel
theorem dX9_resultOf_12 : decode cX9_resultOf 12 = .ok (.getfield 34, 3) := by decide +kernel
theorem dX9_resultOf_15 : decode cX9_resultOf 15 = .ok (.iload_n 1, 1) := by decide +kernel
theorem dX9_resultOf_16 : decode cX9_resultOf 16 = .ok (.iaload, 1) := by decide +kernel
theorem dX9_resultOf_17 : decode cX9_resultOf 17 = .ok (.iconst (-1), 1) := by decide +kernel
theorem dX9_resultOf_18 : decode cX9_resultOf 18 = .ok (.if_icmp .ne 8, 3) := by decide +kernel
theorem dX9_resultOf_21 : decode cX9_resultOf 21 = .ok (.bipush (-10), 2) := by decide +kernel
theorem dX9_resultOf_23 : decode cX9_resultOf 23 = .ok (.goto 13, 3) := by decide +kernel
theorem dX9_resultOf_26 : decode cX9_resultOf 26 = .ok (.aload_n 0, 1) := by decide +kernel
theorem dX9_resultOf_27 : decode cX9_resultOf 27 = .ok (.getfield 37, 3) := by decide +kernel
theorem dX9_resultOf_30 : decode cX9_resultOf 30 = .ok (.iload_n 1, 1) := by decide +kernel
theorem dX9_resultOf_31 : decode cX9_resultOf 31 = .ok (.iaload, 1) := by decide +kernel
theorem dX9_resultOf_32 : decode cX9_resultOf 32 = .ok (.sipush 1000, 3) := by decide +kernel
theorem dX9_resultOf_35 : decode cX9_resultOf 35 = .ok (.iadd, 1) := by decide +kernel
theorem dX9_resultOf_36 : decode cX9_resultOf 36 = .ok (.ireturn, 1) := by decide +kernel
theorem dX9_isBefore_0 : decode cX9_isBefore 0 = .ok (.aload_n 0, 1) := by decide +kernel
theorem dX9_isBefore_1 : decode cX9_isBefore 1 = .ok (.getfield 34, 3) := by decide +kernel
theorem dX9_isBefore_4 : decode cX9_isBefore 4 = .ok (.iload_n 1, 1) := by decide +kernel
theorem dX9_isBefore_5 : decode cX9_isBefore 5 = .ok (.iaload, 1) := by decide +kernel
theorem dX9_isBefore_6 : decode cX9_isBefore 6 = .ok (.iconst (-1), 1) := by decide +kernel
theorem dX9_isBefore_7 : decode cX9_isBefore 7 = .ok (.if_icmp .eq 22, 3) := by decide +kernel
theorem dX9_isBefore_10 : decode cX9_isBefore 10 = .ok (.aload_n 0, 1) := by decide +kernel
theorem dX9_isBefore_11 : decode cX9_isBefore 11 = .ok (.getfield 34, 3) := by decide +kernel
theorem dX9_isBefore_14 : decode cX9_isBefore 14 = .ok (.iload_n 1, 1) := by decide +kernel
theorem dX9_isBefore_15 : decode cX9_isBefore 15 = .ok (.iaload, 1) := by decide +kernel
theorem dX9_isBefore_16 : decode cX9_isBefore 16 = .ok (.aload_n 0, 1) := by decide +kernel
theorem dX9_isBefore_17 : decode cX9_isBefore 17 = .ok (.getfield 31, 3) := by decide +kernel
theorem dX9_isBefore_20 : decode cX9_isBefore 20 = .ok (.iload_n 2, 1) := by decide +kernel
theorem dX9_isBefore_21 : decode cX9_isBefore 21 = .ok (.iaload, 1) := by decide +kernel
theorem dX9_isBefore_22 : decode cX9_isBefore 22 = .ok (.if_icmp .ge 7, 3) := by decide +kernel
theorem dX9_isBefore_25 : decode cX9_isBefore 25 = .ok (.iconst 1, 1) := by decide +kernel
theorem dX9_isBefore_26 : decode cX9_isBefore 26 = .ok (.goto 4, 3) := by decide +kernel
theorem dX9_isBefore_29 : decode cX9_isBefore 29 = .ok (.iconst 0, 1) := by decide +kernel
theorem dX9_isBefore_30 : decode cX9_isBefore 30 = .ok (.ireturn, 1) := by decide +kernel
theorem dX9_precedes_0 : decode cX9_precedes 0 = .ok (.aload_n 0, 1) := by decide +kernel
theorem dX9_precedes_1 : decode cX9_precedes 1 = .ok (.iload_n 1, 1) := by decide +kernel
theorem dX9_precedes_2 : decode cX9_precedes 2 = .ok (.invokevirtual 155, 3) := by decide +kernel
theorem dX9_precedes_5 : decode cX9_precedes 5 = .ok (.ifCond .eq 11, 3) := by decide +kernel
theorem dX9_precedes_8 : decode cX9_precedes 8 = .ok (.aload_n 0, 1) := by decide +kernel
theorem dX9_precedes_9 : decode cX9_precedes 9 = .ok (.iload_n 2, 1) := by decide +kernel
theorem dX9_precedes_10 : decode cX9_precedes 10 = .ok (.invokevirtual 155, 3) := by decide +kernel
theorem dX9_precedes_13 : decode cX9_precedes 13 = .ok (.ifCond .ne 6, 3) := by decide +kernel
theorem dX9_precedes_16 : decode cX9_precedes 16 = .ok (.bipush (-9), 2) := by decide +kernel
theorem dX9_precedes_18 : decode cX9_precedes 18 = .ok (.ireturn, 1) := by decide +kernel
theorem dX9_precedes_19 : decode cX9_precedes 19 = .ok (.aload_n 0, 1) := by decide +kernel
theorem dX9_precedes_20 : decode cX9_precedes 20 = .ok (.iload_n 1, 1) := by decide +kernel
theorem dX9_precedes_21 : decode cX9_precedes 21 = .ok (.iload_n 2, 1) := by decide +kernel
theorem dX9_precedes_22 : decode cX9_precedes 22 = .ok (.invokevirtual 158, 3) := by decide +kernel
theorem dX9_precedes_25 : decode cX9_precedes 25 = .ok (.ifCond .eq 7, 3) := by decide +kernel
theorem dX9_precedes_28 : decode cX9_precedes 28 = .ok (.iconst 1, 1) := by decide +kernel
theorem dX9_precedes_29 : decode cX9_precedes 29 = .ok (.goto 4, 3) := by decide +kernel
theorem dX9_precedes_32 : decode cX9_precedes 32 = .ok (.iconst 0, 1) := by decide +kernel
theorem dX9_precedes_33 : decode cX9_precedes 33 = .ok (.ireturn, 1) := by decide +kernel
theorem dX9_maxPending_0 : decode cX9_maxPending 0 = .ok (.iconst 0, 1) := by decide +kernel
theorem dX9_maxPending_1 : decode cX9_maxPending 1 = .ok (.istore_n 1, 1) := by decide +kernel
theorem dX9_maxPending_2 : decode cX9_maxPending 2 = .ok (.iconst 0, 1) := by decide +kernel
theorem dX9_maxPending_3 : decode cX9_maxPending 3 = .ok (.istore_n 2, 1) := by decide +kernel
theorem dX9_maxPending_4 : decode cX9_maxPending 4 = .ok (.iconst 0, 1) := by decide +kernel
theorem dX9_maxPending_5 : decode cX9_maxPending 5 = .ok (.istore_n 3, 1) := by decide +kernel
theorem dX9_maxPending_6 : decode cX9_maxPending 6 = .ok (.iload_n 3, 1) := by decide +kernel
theorem dX9_maxPending_7 : decode cX9_maxPending 7 = .ok (.aload_n 0, 1) := by decide +kernel
theorem dX9_maxPending_8 : decode cX9_maxPending 8 = .ok (.getfield 104, 3) := by decide +kernel
theorem dX9_maxPending_11 : decode cX9_maxPending 11 = .ok (.if_icmp .ge 46, 3) := by decide +kernel
theorem dX9_maxPending_14 : decode cX9_maxPending 14 = .ok (.iload_n 1, 1) := by decide +kernel
theorem dX9_maxPending_15 : decode cX9_maxPending 15 = .ok (.aload_n 0, 1) := by decide +kernel
theorem dX9_maxPending_16 : decode cX9_maxPending 16 = .ok (.getfield 40, 3) := by decide +kernel
theorem dX9_maxPending_19 : decode cX9_maxPending 19 = .ok (.iload_n 3, 1) := by decide +kernel
theorem dX9_maxPending_20 : decode cX9_maxPending 20 = .ok (.iaload, 1) := by decide +kernel
theorem dX9_maxPending_21 : decode cX9_maxPending 21 = .ok (.ifCond .ne 7, 3) := by decide +kernel
theorem dX9_maxPending_24 : decode cX9_maxPending 24 = .ok (.iconst 1, 1) := by decide +kernel
theorem dX9_maxPending_25 : decode cX9_maxPending 25 = .ok (.goto 18, 3) := by decide +kernel
theorem dX9_maxPending_28 : decode cX9_maxPending 28 = .ok (.aload_n 0, 1) := by decide +kernel
theorem dX9_maxPending_29 : decode cX9_maxPending 29 = .ok (.getfield 40, 3) := by decide +kernel
theorem dX9_maxPending_32 : decode cX9_maxPending 32 = .ok (.iload_n 3, 1) := by decide +kernel
theorem dX9_maxPending_33 : decode cX9_maxPending 33 = .ok (.iaload, 1) := by decide +kernel
theorem dX9_maxPending_34 : decode cX9_maxPending 34 = .ok (.iconst 1, 1) := by decide +kernel
theorem dX9_maxPending_35 : decode cX9_maxPending 35 = .ok (.if_icmp .ne 7, 3) := by decide +kernel
theorem dX9_maxPending_38 : decode cX9_maxPending 38 = .ok (.iconst (-1), 1) := by decide +kernel
theorem dX9_maxPending_39 : decode cX9_maxPending 39 = .ok (.goto 4, 3) := by decide +kernel
theorem dX9_maxPending_42 : decode cX9_maxPending 42 = .ok (.iconst 0, 1) := by decide +kernel
theorem dX9_maxPending_43 : decode cX9_maxPending 43 = .ok (.iadd, 1) := by decide +kernel
theorem dX9_maxPending_44 : decode cX9_maxPending 44 = .ok (.istore_n 1, 1) := by decide +kernel
theorem dX9_maxPending_45 : decode cX9_maxPending 45 = .ok (.iload_n 2, 1) := by decide +kernel
theorem dX9_maxPending_46 : decode cX9_maxPending 46 = .ok (.iload_n 1, 1) := by decide +kernel
theorem dX9_maxPending_47 : decode cX9_maxPending 47 = .ok (.invokestatic 161, 3) := by decide +kernel
theorem dX9_maxPending_50 : decode cX9_maxPending 50 = .ok (.istore_n 2, 1) := by decide +kernel
theorem dX9_maxPending_51 : decode cX9_maxPending 51 = .ok (.iinc 3 1, 3) := by decide +kernel
theorem dX9_maxPending_54 : decode cX9_maxPending 54 = .ok (.goto (-48), 3) := by decide +kernel
theorem dX9_maxPending_57 : decode cX9_maxPending 57 = .ok (.iload_n 2, 1) := by decide +kernel
theorem dX9_maxPending_58 : decode cX9_maxPending 58 = .ok (.ireturn, 1) := by decide +kernel
theorem dX9_longestChain_0 : decode cX9_longestChain 0 = .ok (.iconst 0, 1) := by decide +kernel
theorem dX9_longestChain_1 : decode cX9_longestChain 1 = .ok (.istore_n 1, 1) := by decide +kernel
theorem dX9_longestChain_2 : decode cX9_longestChain 2 = .ok (.iconst 0, 1) := by decide +kernel
theorem dX9_longestChain_3 : decode cX9_longestChain 3 = .ok (.istore_n 2, 1) := by decide +kernel
theorem dX9_longestChain_4 : decode cX9_longestChain 4 = .ok (.iload_n 2, 1) := by decide +kernel
theorem dX9_longestChain_5 : decode cX9_longestChain 5 = .ok (.aload_n 0, 1) := by decide +kernel
theorem dX9_longestChain_6 : decode cX9_longestChain 6 = .ok (.getfield 101, 3) := by decide +kernel
theorem dX9_longestChain_9 : decode cX9_longestChain 9 = .ok (.if_icmp .ge 72, 3) := by decide +kernel
theorem dX9_longestChain_12 : decode cX9_longestChain 12 = .ok (.aload_n 0, 1) := by decide +kernel
theorem dX9_longestChain_13 : decode cX9_longestChain 13 = .ok (.getfield 52, 3) := by decide +kernel
theorem dX9_longestChain_16 : decode cX9_longestChain 16 = .ok (.iload_n 2, 1) := by decide +kernel
theorem dX9_longestChain_17 : decode cX9_longestChain 17 = .ok (.iconst 1, 1) := by decide +kernel
theorem dX9_longestChain_18 : decode cX9_longestChain 18 = .ok (.iastore, 1) := by decide +kernel
theorem dX9_longestChain_19 : decode cX9_longestChain 19 = .ok (.iconst 0, 1) := by decide +kernel
theorem dX9_longestChain_20 : decode cX9_longestChain 20 = .ok (.istore_n 3, 1) := by decide +kernel
theorem dX9_longestChain_21 : decode cX9_longestChain 21 = .ok (.iload_n 3, 1) := by decide +kernel
theorem dX9_longestChain_22 : decode cX9_longestChain 22 = .ok (.iload_n 2, 1) := by decide +kernel
theorem dX9_longestChain_23 : decode cX9_longestChain 23 = .ok (.if_icmp .ge 41, 3) := by decide +kernel
theorem dX9_longestChain_26 : decode cX9_longestChain 26 = .ok (.aload_n 0, 1) := by decide +kernel
theorem dX9_longestChain_27 : decode cX9_longestChain 27 = .ok (.iload_n 3, 1) := by decide +kernel
theorem dX9_longestChain_28 : decode cX9_longestChain 28 = .ok (.iload_n 2, 1) := by decide +kernel
theorem dX9_longestChain_29 : decode cX9_longestChain 29 = .ok (.invokevirtual 158, 3) := by decide +kernel
theorem dX9_longestChain_32 : decode cX9_longestChain 32 = .ok (.ifCond .eq 26, 3) := by decide +kernel
theorem dX9_longestChain_35 : decode cX9_longestChain 35 = .ok (.aload_n 0, 1) := by decide +kernel
theorem dX9_longestChain_36 : decode cX9_longestChain 36 = .ok (.getfield 52, 3) := by decide +kernel
theorem dX9_longestChain_39 : decode cX9_longestChain 39 = .ok (.iload_n 2, 1) := by decide +kernel
theorem dX9_longestChain_40 : decode cX9_longestChain 40 = .ok (.aload_n 0, 1) := by decide +kernel
theorem dX9_longestChain_41 : decode cX9_longestChain 41 = .ok (.getfield 52, 3) := by decide +kernel
theorem dX9_longestChain_44 : decode cX9_longestChain 44 = .ok (.iload_n 2, 1) := by decide +kernel
theorem dX9_longestChain_45 : decode cX9_longestChain 45 = .ok (.iaload, 1) := by decide +kernel
theorem dX9_longestChain_46 : decode cX9_longestChain 46 = .ok (.aload_n 0, 1) := by decide +kernel
theorem dX9_longestChain_47 : decode cX9_longestChain 47 = .ok (.getfield 52, 3) := by decide +kernel
theorem dX9_longestChain_50 : decode cX9_longestChain 50 = .ok (.iload_n 3, 1) := by decide +kernel
theorem dX9_longestChain_51 : decode cX9_longestChain 51 = .ok (.iaload, 1) := by decide +kernel
theorem dX9_longestChain_52 : decode cX9_longestChain 52 = .ok (.iconst 1, 1) := by decide +kernel
theorem dX9_longestChain_53 : decode cX9_longestChain 53 = .ok (.iadd, 1) := by decide +kernel
theorem dX9_longestChain_54 : decode cX9_longestChain 54 = .ok (.invokestatic 161, 3) := by decide +kernel
theorem dX9_longestChain_57 : decode cX9_longestChain 57 = .ok (.iastore, 1) := by decide +kernel
theorem dX9_longestChain_58 : decode cX9_longestChain 58 = .ok (.iinc 3 1, 3) := by decide +kernel
theorem dX9_longestChain_61 : decode cX9_longestChain 61 = .ok (.goto (-40), 3) := by decide +kernel
theorem dX9_longestChain_64 : decode cX9_longestChain 64 = .ok (.iload_n 1, 1) := by decide +kernel
theorem dX9_longestChain_65 : decode cX9_longestChain 65 = .ok (.aload_n 0, 1) := by decide +kernel
theorem dX9_longestChain_66 : decode cX9_longestChain 66 = .ok (.getfield 52, 3) := by decide +kernel
theorem dX9_longestChain_69 : decode cX9_longestChain 69 = .ok (.iload_n 2, 1) := by decide +kernel
theorem dX9_longestChain_70 : decode cX9_longestChain 70 = .ok (.iaload, 1) := by decide +kernel
theorem dX9_longestChain_71 : decode cX9_longestChain 71 = .ok (.invokestatic 161, 3) := by decide +kernel
theorem dX9_longestChain_74 : decode cX9_longestChain 74 = .ok (.istore_n 1, 1) := by decide +kernel
theorem dX9_longestChain_75 : decode cX9_longestChain 75 = .ok (.iinc 2 1, 3) := by decide +kernel
theorem dX9_longestChain_78 : decode cX9_longestChain 78 = .ok (.goto (-74), 3) := by decide +kernel
theorem dX9_longestChain_81 : decode cX9_longestChain 81 = .ok (.iload_n 1, 1) := by decide +kernel
theorem dX9_longestChain_82 : decode cX9_longestChain 82 = .ok (.ireturn, 1) := by decide +kernel
theorem dX9_start_0 : decode cX9_start 0 = .ok (.iconst 0, 1) := by decide +kernel
theorem dX9_start_1 : decode cX9_start 1 = .ok (.istore_n 1, 1) := by decide +kernel
theorem dX9_start_2 : decode cX9_start 2 = .ok (.iload_n 1, 1) := by decide +kernel
theorem dX9_start_3 : decode cX9_start 3 = .ok (.iconst 4, 1) := by decide +kernel
theorem dX9_start_4 : decode cX9_start 4 = .ok (.if_icmp .ge 35, 3) := by decide +kernel
theorem dX9_start_7 : decode cX9_start 7 = .ok (.aload_n 0, 1) := by decide +kernel
theorem dX9_start_8 : decode cX9_start 8 = .ok (.getfield 55, 3) := by decide +kernel
theorem dX9_start_11 : decode cX9_start 11 = .ok (.iload_n 1, 1) := by decide +kernel
theorem dX9_start_12 : decode cX9_start 12 = .ok (.aload_n 0, 1) := by decide +kernel
theorem dX9_start_13 : decode cX9_start 13 = .ok (.getfield 13, 3) := by decide +kernel
theorem dX9_start_16 : decode cX9_start 16 = .ok (.iload_n 1, 1) := by decide +kernel
theorem dX9_start_17 : decode cX9_start 17 = .ok (.iaload, 1) := by decide +kernel
theorem dX9_start_18 : decode cX9_start 18 = .ok (.iastore, 1) := by decide +kernel
theorem dX9_start_19 : decode cX9_start 19 = .ok (.aload_n 0, 1) := by decide +kernel
theorem dX9_start_20 : decode cX9_start 20 = .ok (.getfield 61, 3) := by decide +kernel
theorem dX9_start_23 : decode cX9_start 23 = .ok (.iload_n 1, 1) := by decide +kernel
theorem dX9_start_24 : decode cX9_start 24 = .ok (.iconst 0, 1) := by decide +kernel
theorem dX9_start_25 : decode cX9_start 25 = .ok (.iastore, 1) := by decide +kernel
theorem dX9_start_26 : decode cX9_start 26 = .ok (.aload_n 0, 1) := by decide +kernel
theorem dX9_start_27 : decode cX9_start 27 = .ok (.getfield 64, 3) := by decide +kernel
theorem dX9_start_30 : decode cX9_start 30 = .ok (.iload_n 1, 1) := by decide +kernel
theorem dX9_start_31 : decode cX9_start 31 = .ok (.iconst 0, 1) := by decide +kernel
theorem dX9_start_32 : decode cX9_start 32 = .ok (.iastore, 1) := by decide +kernel
theorem dX9_start_33 : decode cX9_start 33 = .ok (.iinc 1 1, 3) := by decide +kernel
theorem dX9_start_36 : decode cX9_start 36 = .ok (.goto (-34), 3) := by decide +kernel
theorem dX9_start_39 : decode cX9_start 39 = .ok (.iconst 0, 1) := by decide +kernel
theorem dX9_start_40 : decode cX9_start 40 = .ok (.istore_n 1, 1) := by decide +kernel
theorem dX9_start_41 : decode cX9_start 41 = .ok (.iload_n 1, 1) := by decide +kernel
theorem dX9_start_42 : decode cX9_start 42 = .ok (.sipush 400, 3) := by decide +kernel
theorem dX9_start_45 : decode cX9_start 45 = .ok (.if_icmp .ge 16, 3) := by decide +kernel
theorem dX9_start_48 : decode cX9_start 48 = .ok (.aload_n 0, 1) := by decide +kernel
theorem dX9_start_49 : decode cX9_start 49 = .ok (.getfield 67, 3) := by decide +kernel
theorem dX9_start_52 : decode cX9_start 52 = .ok (.iload_n 1, 1) := by decide +kernel
theorem dX9_start_53 : decode cX9_start 53 = .ok (.iconst 0, 1) := by decide +kernel
theorem dX9_start_54 : decode cX9_start 54 = .ok (.bastore, 1) := by decide +kernel
theorem dX9_start_55 : decode cX9_start 55 = .ok (.iinc 1 1, 3) := by decide +kernel
theorem dX9_start_58 : decode cX9_start 58 = .ok (.goto (-17), 3) := by decide +kernel
theorem dX9_start_61 : decode cX9_start 61 = .ok (.return_, 1) := by decide +kernel
theorem dX9_execute_0 : decode cX9_execute 0 = .ok (.aload_n 0, 1) := by decide +kernel
theorem dX9_execute_1 : decode cX9_execute 1 = .ok (.getfield 22, 3) := by decide +kernel
theorem dX9_execute_4 : decode cX9_execute 4 = .ok (.iload_n 1, 1) := by decide +kernel
theorem dX9_execute_5 : decode cX9_execute 5 = .ok (.iaload, 1) := by decide +kernel
theorem dX9_execute_6 : decode cX9_execute 6 = .ok (.istore_n 2, 1) := by decide +kernel
theorem dX9_execute_7 : decode cX9_execute 7 = .ok (.aload_n 0, 1) := by decide +kernel
theorem dX9_execute_8 : decode cX9_execute 8 = .ok (.getfield 25, 3) := by decide +kernel
theorem dX9_execute_11 : decode cX9_execute 11 = .ok (.iload_n 1, 1) := by decide +kernel
theorem dX9_execute_12 : decode cX9_execute 12 = .ok (.iaload, 1) := by decide +kernel
theorem dX9_execute_13 : decode cX9_execute 13 = .ok (.istore_n 3, 1) := by decide +kernel
theorem dX9_execute_14 : decode cX9_execute 14 = .ok (.bipush 100, 2) := by decide +kernel
theorem dX9_execute_16 : decode cX9_execute 16 = .ok (.iload_n 2, 1) := by decide +kernel
theorem dX9_execute_17 : decode cX9_execute 17 = .ok (.imul, 1) := by decide +kernel
theorem dX9_execute_18 : decode cX9_execute 18 = .ok (.iload_n 3, 1) := by decide +kernel
theorem dX9_execute_19 : decode cX9_execute 19 = .ok (.ifCond .ge 7, 3) := by decide +kernel
theorem dX9_execute_22 : decode cX9_execute 22 = .ok (.iconst 0, 1) := by decide +kernel
theorem dX9_execute_23 : decode cX9_execute 23 = .ok (.goto 4, 3) := by decide +kernel
theorem dX9_execute_26 : decode cX9_execute 26 = .ok (.iload_n 3, 1) := by decide +kernel
theorem dX9_execute_27 : decode cX9_execute 27 = .ok (.iadd, 1) := by decide +kernel
theorem dX9_execute_28 : decode cX9_execute 28 = .ok (.istore 4, 2) := by decide +kernel
theorem dX9_execute_30 : decode cX9_execute 30 = .ok (.aload_n 0, 1) := by decide +kernel
theorem dX9_execute_31 : decode cX9_execute 31 = .ok (.getfield 55, 3) := by decide +kernel
theorem dX9_execute_34 : decode cX9_execute 34 = .ok (.iload_n 2, 1) := by decide +kernel
theorem dX9_execute_35 : decode cX9_execute 35 = .ok (.iaload, 1) := by decide +kernel
theorem dX9_execute_36 : decode cX9_execute 36 = .ok (.istore 5, 2) := by decide +kernel
theorem dX9_execute_38 : decode cX9_execute 38 = .ok (.aload_n 0, 1) := by decide +kernel
theorem dX9_execute_39 : decode cX9_execute 39 = .ok (.getfield 67, 3) := by decide +kernel
theorem dX9_execute_42 : decode cX9_execute 42 = .ok (.iload 4, 2) := by decide +kernel
theorem dX9_execute_44 : decode cX9_execute 44 = .ok (.baload, 1) := by decide +kernel
theorem dX9_execute_45 : decode cX9_execute 45 = .ok (.istore 6, 2) := by decide +kernel
theorem dX9_execute_47 : decode cX9_execute 47 = .ok (.aload_n 0, 1) := by decide +kernel
theorem dX9_execute_48 : decode cX9_execute 48 = .ok (.getfield 16, 3) := by decide +kernel
theorem dX9_execute_51 : decode cX9_execute 51 = .ok (.iload_n 1, 1) := by decide +kernel
theorem dX9_execute_52 : decode cX9_execute 52 = .ok (.iaload, 1) := by decide +kernel
theorem dX9_execute_53 : decode cX9_execute 53 = .ok (.tableswitch 232 1 9 #[51, 60, 232, 95, 108, 137, 183, 202, 221], 51) := by decide +kernel
theorem dX9_execute_104 : decode cX9_execute 104 = .ok (.aload_n 0, 1) := by decide +kernel
theorem dX9_execute_105 : decode cX9_execute 105 = .ok (.getfield 55, 3) := by decide +kernel
theorem dX9_execute_108 : decode cX9_execute 108 = .ok (.iload_n 2, 1) := by decide +kernel
theorem dX9_execute_109 : decode cX9_execute 109 = .ok (.iload_n 3, 1) := by decide +kernel
theorem dX9_execute_110 : decode cX9_execute 110 = .ok (.iastore, 1) := by decide +kernel
theorem dX9_execute_111 : decode cX9_execute 111 = .ok (.iconst 0, 1) := by decide +kernel
theorem dX9_execute_112 : decode cX9_execute 112 = .ok (.ireturn, 1) := by decide +kernel
theorem dX9_execute_113 : decode cX9_execute 113 = .ok (.aload_n 0, 1) := by decide +kernel
theorem dX9_execute_114 : decode cX9_execute 114 = .ok (.getfield 55, 3) := by decide +kernel
theorem dX9_execute_117 : decode cX9_execute 117 = .ok (.iload_n 2, 1) := by decide +kernel
theorem dX9_execute_118 : decode cX9_execute 118 = .ok (.iload 5, 2) := by decide +kernel
theorem dX9_execute_120 : decode cX9_execute 120 = .ok (.iload_n 3, 1) := by decide +kernel
theorem dX9_execute_121 : decode cX9_execute 121 = .ok (.if_icmp .ne 12, 3) := by decide +kernel
theorem dX9_execute_124 : decode cX9_execute 124 = .ok (.aload_n 0, 1) := by decide +kernel
theorem dX9_execute_125 : decode cX9_execute 125 = .ok (.getfield 28, 3) := by decide +kernel
theorem dX9_execute_128 : decode cX9_execute 128 = .ok (.iload_n 1, 1) := by decide +kernel
theorem dX9_execute_129 : decode cX9_execute 129 = .ok (.iaload, 1) := by decide +kernel
theorem dX9_execute_130 : decode cX9_execute 130 = .ok (.goto 5, 3) := by decide +kernel
theorem dX9_execute_133 : decode cX9_execute 133 = .ok (.iload 5, 2) := by decide +kernel
theorem dX9_execute_135 : decode cX9_execute 135 = .ok (.iastore, 1) := by decide +kernel
theorem dX9_execute_136 : decode cX9_execute 136 = .ok (.iload 5, 2) := by decide +kernel
theorem dX9_execute_138 : decode cX9_execute 138 = .ok (.iload_n 3, 1) := by decide +kernel
theorem dX9_execute_139 : decode cX9_execute 139 = .ok (.if_icmp .ne 7, 3) := by decide +kernel
theorem dX9_execute_142 : decode cX9_execute 142 = .ok (.iconst 1, 1) := by decide +kernel
theorem dX9_execute_143 : decode cX9_execute 143 = .ok (.goto 4, 3) := by decide +kernel
theorem dX9_execute_146 : decode cX9_execute 146 = .ok (.iconst 0, 1) := by decide +kernel
theorem dX9_execute_147 : decode cX9_execute 147 = .ok (.ireturn, 1) := by decide +kernel
theorem dX9_execute_148 : decode cX9_execute 148 = .ok (.aload_n 0, 1) := by decide +kernel
theorem dX9_execute_149 : decode cX9_execute 149 = .ok (.getfield 55, 3) := by decide +kernel
theorem dX9_execute_152 : decode cX9_execute 152 = .ok (.iload_n 2, 1) := by decide +kernel
theorem dX9_execute_153 : decode cX9_execute 153 = .ok (.iload 5, 2) := by decide +kernel
theorem dX9_execute_155 : decode cX9_execute 155 = .ok (.iload_n 3, 1) := by decide +kernel
theorem dX9_execute_156 : decode cX9_execute 156 = .ok (.iadd, 1) := by decide +kernel
theorem dX9_execute_157 : decode cX9_execute 157 = .ok (.iastore, 1) := by decide +kernel
theorem dX9_execute_158 : decode cX9_execute 158 = .ok (.iload 5, 2) := by decide +kernel
theorem dX9_execute_160 : decode cX9_execute 160 = .ok (.ireturn, 1) := by decide +kernel
theorem dX9_execute_161 : decode cX9_execute 161 = .ok (.aload_n 0, 1) := by decide +kernel
theorem dX9_execute_162 : decode cX9_execute 162 = .ok (.getfield 58, 3) := by decide +kernel
theorem dX9_execute_165 : decode cX9_execute 165 = .ok (.bipush 10, 2) := by decide +kernel
theorem dX9_execute_167 : decode cX9_execute 167 = .ok (.iload_n 2, 1) := by decide +kernel
theorem dX9_execute_168 : decode cX9_execute 168 = .ok (.imul, 1) := by decide +kernel
theorem dX9_execute_169 : decode cX9_execute 169 = .ok (.aload_n 0, 1) := by decide +kernel
theorem dX9_execute_170 : decode cX9_execute 170 = .ok (.getfield 64, 3) := by decide +kernel
theorem dX9_execute_173 : decode cX9_execute 173 = .ok (.iload_n 2, 1) := by decide +kernel
theorem dX9_execute_174 : decode cX9_execute 174 = .ok (.iaload, 1) := by decide +kernel
theorem dX9_execute_175 : decode cX9_execute 175 = .ok (.iadd, 1) := by decide +kernel
theorem dX9_execute_176 : decode cX9_execute 176 = .ok (.iload_n 3, 1) := by decide +kernel
theorem dX9_execute_177 : decode cX9_execute 177 = .ok (.iastore, 1) := by decide +kernel
theorem dX9_execute_178 : decode cX9_execute 178 = .ok (.aload_n 0, 1) := by decide +kernel
theorem dX9_execute_179 : decode cX9_execute 179 = .ok (.getfield 64, 3) := by decide +kernel
theorem dX9_execute_182 : decode cX9_execute 182 = .ok (.iload_n 2, 1) := by decide +kernel
theorem dX9_execute_183 : decode cX9_execute 183 = .ok (.dup2, 1) := by decide +kernel
theorem dX9_execute_184 : decode cX9_execute 184 = .ok (.iaload, 1) := by decide +kernel
theorem dX9_execute_185 : decode cX9_execute 185 = .ok (.iconst 1, 1) := by decide +kernel
theorem dX9_execute_186 : decode cX9_execute 186 = .ok (.iadd, 1) := by decide +kernel
theorem dX9_execute_187 : decode cX9_execute 187 = .ok (.iastore, 1) := by decide +kernel
theorem dX9_execute_188 : decode cX9_execute 188 = .ok (.iconst 0, 1) := by decide +kernel
theorem dX9_execute_189 : decode cX9_execute 189 = .ok (.ireturn, 1) := by decide +kernel
theorem dX9_execute_190 : decode cX9_execute 190 = .ok (.aload_n 0, 1) := by decide +kernel
theorem dX9_execute_191 : decode cX9_execute 191 = .ok (.getfield 61, 3) := by decide +kernel
theorem dX9_execute_194 : decode cX9_execute 194 = .ok (.iload_n 2, 1) := by decide +kernel
theorem dX9_execute_195 : decode cX9_execute 195 = .ok (.iaload, 1) := by decide +kernel
theorem dX9_execute_196 : decode cX9_execute 196 = .ok (.aload_n 0, 1) := by decide +kernel
theorem dX9_execute_197 : decode cX9_execute 197 = .ok (.getfield 64, 3) := by decide +kernel
theorem dX9_execute_200 : decode cX9_execute 200 = .ok (.iload_n 2, 1) := by decide +kernel
theorem dX9_execute_201 : decode cX9_execute 201 = .ok (.iaload, 1) := by decide +kernel
theorem dX9_execute_202 : decode cX9_execute 202 = .ok (.if_icmp .ne 5, 3) := by decide +kernel
theorem dX9_execute_205 : decode cX9_execute 205 = .ok (.iconst (-1), 1) := by decide +kernel
theorem dX9_execute_206 : decode cX9_execute 206 = .ok (.ireturn, 1) := by decide +kernel
theorem dX9_execute_207 : decode cX9_execute 207 = .ok (.aload_n 0, 1) := by decide +kernel
theorem dX9_execute_208 : decode cX9_execute 208 = .ok (.getfield 61, 3) := by decide +kernel
theorem dX9_execute_211 : decode cX9_execute 211 = .ok (.iload_n 2, 1) := by decide +kernel
theorem dX9_execute_212 : decode cX9_execute 212 = .ok (.dup2, 1) := by decide +kernel
theorem dX9_execute_213 : decode cX9_execute 213 = .ok (.iaload, 1) := by decide +kernel
theorem dX9_execute_214 : decode cX9_execute 214 = .ok (.iconst 1, 1) := by decide +kernel
theorem dX9_execute_215 : decode cX9_execute 215 = .ok (.iadd, 1) := by decide +kernel
theorem dX9_execute_216 : decode cX9_execute 216 = .ok (.iastore, 1) := by decide +kernel
theorem dX9_execute_217 : decode cX9_execute 217 = .ok (.aload_n 0, 1) := by decide +kernel
theorem dX9_execute_218 : decode cX9_execute 218 = .ok (.getfield 58, 3) := by decide +kernel
theorem dX9_execute_221 : decode cX9_execute 221 = .ok (.bipush 10, 2) := by decide +kernel
theorem dX9_execute_223 : decode cX9_execute 223 = .ok (.iload_n 2, 1) := by decide +kernel
theorem dX9_execute_224 : decode cX9_execute 224 = .ok (.imul, 1) := by decide +kernel
theorem dX9_execute_225 : decode cX9_execute 225 = .ok (.aload_n 0, 1) := by decide +kernel
theorem dX9_execute_226 : decode cX9_execute 226 = .ok (.getfield 61, 3) := by decide +kernel
theorem dX9_execute_229 : decode cX9_execute 229 = .ok (.iload_n 2, 1) := by decide +kernel
theorem dX9_execute_230 : decode cX9_execute 230 = .ok (.iaload, 1) := by decide +kernel
theorem dX9_execute_231 : decode cX9_execute 231 = .ok (.iadd, 1) := by decide +kernel
theorem dX9_execute_232 : decode cX9_execute 232 = .ok (.iconst 1, 1) := by decide +kernel
theorem dX9_execute_233 : decode cX9_execute 233 = .ok (.isub, 1) := by decide +kernel
theorem dX9_execute_234 : decode cX9_execute 234 = .ok (.iaload, 1) := by decide +kernel
theorem dX9_execute_235 : decode cX9_execute 235 = .ok (.ireturn, 1) := by decide +kernel
theorem dX9_execute_236 : decode cX9_execute 236 = .ok (.aload_n 0, 1) := by decide +kernel
theorem dX9_execute_237 : decode cX9_execute 237 = .ok (.getfield 67, 3) := by decide +kernel
theorem dX9_execute_240 : decode cX9_execute 240 = .ok (.iload 4, 2) := by decide +kernel
theorem dX9_execute_242 : decode cX9_execute 242 = .ok (.iconst 1, 1) := by decide +kernel
theorem dX9_execute_243 : decode cX9_execute 243 = .ok (.bastore, 1) := by decide +kernel
theorem dX9_execute_244 : decode cX9_execute 244 = .ok (.iload 6, 2) := by decide +kernel
theorem dX9_execute_246 : decode cX9_execute 246 = .ok (.ifCond .eq 7, 3) := by decide +kernel
theorem dX9_execute_249 : decode cX9_execute 249 = .ok (.iconst 0, 1) := by decide +kernel
theorem dX9_execute_250 : decode cX9_execute 250 = .ok (.goto 4, 3) := by decide +kernel
theorem dX9_execute_253 : decode cX9_execute 253 = .ok (.iconst 1, 1) := by decide +kernel
theorem dX9_execute_254 : decode cX9_execute 254 = .ok (.ireturn, 1) := by decide +kernel
theorem dX9_execute_255 : decode cX9_execute 255 = .ok (.aload_n 0, 1) := by decide +kernel
theorem dX9_execute_256 : decode cX9_execute 256 = .ok (.getfield 67, 3) := by decide +kernel
theorem dX9_execute_259 : decode cX9_execute 259 = .ok (.iload 4, 2) := by decide +kernel
theorem dX9_execute_261 : decode cX9_execute 261 = .ok (.iconst 0, 1) := by decide +kernel
theorem dX9_execute_262 : decode cX9_execute 262 = .ok (.bastore, 1) := by decide +kernel
theorem dX9_execute_263 : decode cX9_execute 263 = .ok (.iload 6, 2) := by decide +kernel
theorem dX9_execute_265 : decode cX9_execute 265 = .ok (.ifCond .eq 7, 3) := by decide +kernel
theorem dX9_execute_268 : decode cX9_execute 268 = .ok (.iconst 1, 1) := by decide +kernel
theorem dX9_execute_269 : decode cX9_execute 269 = .ok (.goto 4, 3) := by decide +kernel
theorem dX9_execute_272 : decode cX9_execute 272 = .ok (.iconst 0, 1) := by decide +kernel
theorem dX9_execute_273 : decode cX9_execute 273 = .ok (.ireturn, 1) := by decide +kernel
theorem dX9_execute_274 : decode cX9_execute 274 = .ok (.iload 6, 2) := by decide +kernel
theorem dX9_execute_276 : decode cX9_execute 276 = .ok (.ifCond .eq 7, 3) := by decide +kernel
theorem dX9_execute_279 : decode cX9_execute 279 = .ok (.iconst 1, 1) := by decide +kernel
theorem dX9_execute_280 : decode cX9_execute 280 = .ok (.goto 4, 3) := by decide +kernel
theorem dX9_execute_283 : decode cX9_execute 283 = .ok (.iconst 0, 1) := by decide +kernel
theorem dX9_execute_284 : decode cX9_execute 284 = .ok (.ireturn, 1) := by decide +kernel
theorem dX9_execute_285 : decode cX9_execute 285 = .ok (.iload 5, 2) := by decide +kernel
theorem dX9_execute_287 : decode cX9_execute 287 = .ok (.ireturn, 1) := by decide +kernel
theorem dX9_takeBack_0 : decode cX9_takeBack 0 = .ok (.aload_n 0, 1) := by decide +kernel
theorem dX9_takeBack_1 : decode cX9_takeBack 1 = .ok (.getfield 22, 3) := by decide +kernel
theorem dX9_takeBack_4 : decode cX9_takeBack 4 = .ok (.iload_n 1, 1) := by decide +kernel
theorem dX9_takeBack_5 : decode cX9_takeBack 5 = .ok (.iaload, 1) := by decide +kernel
theorem dX9_takeBack_6 : decode cX9_takeBack 6 = .ok (.istore 4, 2) := by decide +kernel
theorem dX9_takeBack_8 : decode cX9_takeBack 8 = .ok (.aload_n 0, 1) := by decide +kernel
theorem dX9_takeBack_9 : decode cX9_takeBack 9 = .ok (.getfield 55, 3) := by decide +kernel
theorem dX9_takeBack_12 : decode cX9_takeBack 12 = .ok (.iload 4, 2) := by decide +kernel
theorem dX9_takeBack_14 : decode cX9_takeBack 14 = .ok (.iload_n 2, 1) := by decide +kernel
theorem dX9_takeBack_15 : decode cX9_takeBack 15 = .ok (.iastore, 1) := by decide +kernel
theorem dX9_takeBack_16 : decode cX9_takeBack 16 = .ok (.aload_n 0, 1) := by decide +kernel
theorem dX9_takeBack_17 : decode cX9_takeBack 17 = .ok (.getfield 16, 3) := by decide +kernel
theorem dX9_takeBack_20 : decode cX9_takeBack 20 = .ok (.iload_n 1, 1) := by decide +kernel
theorem dX9_takeBack_21 : decode cX9_takeBack 21 = .ok (.iaload, 1) := by decide +kernel
theorem dX9_takeBack_22 : decode cX9_takeBack 22 = .ok (.tableswitch 126 5 8 #[30, 44, 67, 96], 30) := by decide +kernel
theorem dX9_takeBack_52 : decode cX9_takeBack 52 = .ok (.aload_n 0, 1) := by decide +kernel

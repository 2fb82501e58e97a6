theorem d_Model_command_0 : decode b_Model_command 0 = .ok (.iload_n 1, 1) := by decide +kernel
theorem d_Model_command_1 : decode b_Model_command 1 = .ok (.sipush 255, 3) := by decide +kernel
theorem d_Model_command_4 : decode b_Model_command 4 = .ok (.invokestatic 176, 3) := by decide +kernel
theorem d_Model_command_7 : decode b_Model_command 7 = .ok (.ifCond .eq 64, 3) := by decide +kernel
theorem d_Model_command_10 : decode b_Model_command 10 = .ok (.iload_n 2, 1) := by decide +kernel
theorem d_Model_command_11 : decode b_Model_command 11 = .ok (.sipush 255, 3) := by decide +kernel
theorem d_Model_command_14 : decode b_Model_command 14 = .ok (.invokestatic 176, 3) := by decide +kernel
theorem d_Model_command_17 : decode b_Model_command 17 = .ok (.ifCond .eq 54, 3) := by decide +kernel
theorem d_Model_command_20 : decode b_Model_command 20 = .ok (.iload_n 3, 1) := by decide +kernel
theorem d_Model_command_21 : decode b_Model_command 21 = .ok (.ldc 180, 2) := by decide +kernel
theorem d_Model_command_23 : decode b_Model_command 23 = .ok (.invokestatic 176, 3) := by decide +kernel
theorem d_Model_command_26 : decode b_Model_command 26 = .ok (.ifCond .eq 45, 3) := by decide +kernel
theorem d_Model_command_29 : decode b_Model_command 29 = .ok (.iload 4, 2) := by decide +kernel
theorem d_Model_command_31 : decode b_Model_command 31 = .ok (.sipush 255, 3) := by decide +kernel
theorem d_Model_command_34 : decode b_Model_command 34 = .ok (.invokestatic 176, 3) := by decide +kernel
theorem d_Model_command_37 : decode b_Model_command 37 = .ok (.ifCond .eq 34, 3) := by decide +kernel
theorem d_Model_command_40 : decode b_Model_command 40 = .ok (.iload 5, 2) := by decide +kernel
theorem d_Model_command_42 : decode b_Model_command 42 = .ok (.bipush 24, 2) := by decide +kernel
theorem d_Model_command_44 : decode b_Model_command 44 = .ok (.invokestatic 176, 3) := by decide +kernel
theorem d_Model_command_47 : decode b_Model_command 47 = .ok (.ifCond .eq 24, 3) := by decide +kernel
theorem d_Model_command_50 : decode b_Model_command 50 = .ok (.iload 6, 2) := by decide +kernel
theorem d_Model_command_52 : decode b_Model_command 52 = .ok (.sipush 255, 3) := by decide +kernel
theorem d_Model_command_55 : decode b_Model_command 55 = .ok (.invokestatic 176, 3) := by decide +kernel
theorem d_Model_command_58 : decode b_Model_command 58 = .ok (.ifCond .eq 13, 3) := by decide +kernel
theorem d_Model_command_61 : decode b_Model_command 61 = .ok (.iload 7, 2) := by decide +kernel
theorem d_Model_command_63 : decode b_Model_command 63 = .ok (.bipush 31, 2) := by decide +kernel
theorem d_Model_command_65 : decode b_Model_command 65 = .ok (.invokestatic 176, 3) := by decide +kernel
theorem d_Model_command_68 : decode b_Model_command 68 = .ok (.ifCond .ne 5, 3) := by decide +kernel
theorem d_Model_command_71 : decode b_Model_command 71 = .ok (.iconst (-1), 1) := by decide +kernel
theorem d_Model_command_72 : decode b_Model_command 72 = .ok (.ireturn, 1) := by decide +kernel
theorem d_Model_command_73 : decode b_Model_command 73 = .ok (.iload_n 1, 1) := by decide +kernel
theorem d_Model_command_74 : decode b_Model_command 74 = .ok (.bipush 48, 2) := by decide +kernel
theorem d_Model_command_76 : decode b_Model_command 76 = .ok (.iand, 1) := by decide +kernel
theorem d_Model_command_77 : decode b_Model_command 77 = .ok (.ifCond .eq 7, 3) := by decide +kernel
theorem d_Model_command_80 : decode b_Model_command 80 = .ok (.iconst 1, 1) := by decide +kernel
theorem d_Model_command_81 : decode b_Model_command 81 = .ok (.goto 4, 3) := by decide +kernel
theorem d_Model_command_84 : decode b_Model_command 84 = .ok (.iconst 0, 1) := by decide +kernel
theorem d_Model_command_85 : decode b_Model_command 85 = .ok (.istore 8, 2) := by decide +kernel
theorem d_Model_command_87 : decode b_Model_command 87 = .ok (.bipush 10, 2) := by decide +kernel
theorem d_Model_command_89 : decode b_Model_command 89 = .ok (.iload 8, 2) := by decide +kernel
theorem d_Model_command_91 : decode b_Model_command 91 = .ok (.ifCond .eq 10, 3) := by decide +kernel
theorem d_Model_command_94 : decode b_Model_command 94 = .ok (.iload 5, 2) := by decide +kernel
theorem d_Model_command_96 : decode b_Model_command 96 = .ok (.iconst 1, 1) := by decide +kernel
theorem d_Model_command_97 : decode b_Model_command 97 = .ok (.iadd, 1) := by decide +kernel
theorem d_Model_command_98 : decode b_Model_command 98 = .ok (.goto 4, 3) := by decide +kernel
theorem d_Model_command_101 : decode b_Model_command 101 = .ok (.iconst 0, 1) := by decide +kernel
theorem d_Model_command_102 : decode b_Model_command 102 = .ok (.iadd, 1) := by decide +kernel
theorem d_Model_command_103 : decode b_Model_command 103 = .ok (.istore 9, 2) := by decide +kernel
theorem d_Model_command_105 : decode b_Model_command 105 = .ok (.iload 8, 2) := by decide +kernel
theorem d_Model_command_107 : decode b_Model_command 107 = .ok (.ifCond .eq 20, 3) := by decide +kernel
theorem d_Model_command_110 : decode b_Model_command 110 = .ok (.iload 7, 2) := by decide +kernel
theorem d_Model_command_112 : decode b_Model_command 112 = .ok (.iconst 4, 1) := by decide +kernel
theorem d_Model_command_113 : decode b_Model_command 113 = .ok (.idiv, 1) := by decide +kernel
theorem d_Model_command_114 : decode b_Model_command 114 = .ok (.iconst 2, 1) := by decide +kernel
theorem d_Model_command_115 : decode b_Model_command 115 = .ok (.irem, 1) := by decide +kernel
theorem d_Model_command_116 : decode b_Model_command 116 = .ok (.iconst 1, 1) := by decide +kernel
theorem d_Model_command_117 : decode b_Model_command 117 = .ok (.if_icmp .ne 10, 3) := by decide +kernel
theorem d_Model_command_120 : decode b_Model_command 120 = .ok (.iload 9, 2) := by decide +kernel
theorem d_Model_command_122 : decode b_Model_command 122 = .ok (.iconst 1, 1) := by decide +kernel
theorem d_Model_command_123 : decode b_Model_command 123 = .ok (.isub, 1) := by decide +kernel
theorem d_Model_command_124 : decode b_Model_command 124 = .ok (.goto 5, 3) := by decide +kernel
theorem d_Model_command_127 : decode b_Model_command 127 = .ok (.iload 9, 2) := by decide +kernel
theorem d_Model_command_129 : decode b_Model_command 129 = .ok (.istore 9, 2) := by decide +kernel
theorem d_Model_command_131 : decode b_Model_command 131 = .ok (.iload 8, 2) := by decide +kernel
theorem d_Model_command_133 : decode b_Model_command 133 = .ok (.ifCond .eq 21, 3) := by decide +kernel
theorem d_Model_command_136 : decode b_Model_command 136 = .ok (.iload 7, 2) := by decide +kernel
theorem d_Model_command_138 : decode b_Model_command 138 = .ok (.bipush 8, 2) := by decide +kernel
theorem d_Model_command_140 : decode b_Model_command 140 = .ok (.idiv, 1) := by decide +kernel
theorem d_Model_command_141 : decode b_Model_command 141 = .ok (.iconst 2, 1) := by decide +kernel
theorem d_Model_command_142 : decode b_Model_command 142 = .ok (.irem, 1) := by decide +kernel
theorem d_Model_command_143 : decode b_Model_command 143 = .ok (.iconst 1, 1) := by decide +kernel
theorem d_Model_command_144 : decode b_Model_command 144 = .ok (.if_icmp .ne 10, 3) := by decide +kernel
theorem d_Model_command_147 : decode b_Model_command 147 = .ok (.iload 9, 2) := by decide +kernel
theorem d_Model_command_149 : decode b_Model_command 149 = .ok (.iconst 1, 1) := by decide +kernel
theorem d_Model_command_150 : decode b_Model_command 150 = .ok (.iadd, 1) := by decide +kernel
theorem d_Model_command_151 : decode b_Model_command 151 = .ok (.goto 5, 3) := by decide +kernel
theorem d_Model_command_154 : decode b_Model_command 154 = .ok (.iload 9, 2) := by decide +kernel
theorem d_Model_command_156 : decode b_Model_command 156 = .ok (.istore 9, 2) := by decide +kernel
theorem d_Model_command_158 : decode b_Model_command 158 = .ok (.iload 9, 2) := by decide +kernel
theorem d_Model_command_160 : decode b_Model_command 160 = .ok (.bipush 64, 2) := by decide +kernel
theorem d_Model_command_162 : decode b_Model_command 162 = .ok (.aload_n 0, 1) := by decide +kernel
theorem d_Model_command_163 : decode b_Model_command 163 = .ok (.getfield 59, 3) := by decide +kernel
theorem d_Model_command_166 : decode b_Model_command 166 = .ok (.iconst 0, 1) := by decide +kernel
theorem d_Model_command_167 : decode b_Model_command 167 = .ok (.iaload, 1) := by decide +kernel
theorem d_Model_command_168 : decode b_Model_command 168 = .ok (.isub, 1) := by decide +kernel
theorem d_Model_command_169 : decode b_Model_command 169 = .ok (.if_icmp .gt 12, 3) := by decide +kernel
theorem d_Model_command_172 : decode b_Model_command 172 = .ok (.aload_n 0, 1) := by decide +kernel
theorem d_Model_command_173 : decode b_Model_command 173 = .ok (.getfield 65, 3) := by decide +kernel
theorem d_Model_command_176 : decode b_Model_command 176 = .ok (.iconst 0, 1) := by decide +kernel
theorem d_Model_command_177 : decode b_Model_command 177 = .ok (.baload, 1) := by decide +kernel
theorem d_Model_command_178 : decode b_Model_command 178 = .ok (.ifCond .eq 6, 3) := by decide +kernel
theorem d_Model_command_181 : decode b_Model_command 181 = .ok (.bipush (-2), 2) := by decide +kernel
theorem d_Model_command_183 : decode b_Model_command 183 = .ok (.ireturn, 1) := by decide +kernel
theorem d_Model_command_184 : decode b_Model_command 184 = .ok (.aload_n 0, 1) := by decide +kernel
theorem d_Model_command_185 : decode b_Model_command 185 = .ok (.getfield 81, 3) := by decide +kernel
theorem d_Model_command_188 : decode b_Model_command 188 = .ok (.iconst 0, 1) := by decide +kernel
theorem d_Model_command_189 : decode b_Model_command 189 = .ok (.sipush 254, 3) := by decide +kernel
theorem d_Model_command_192 : decode b_Model_command 192 = .ok (.iastore, 1) := by decide +kernel
theorem d_Model_command_193 : decode b_Model_command 193 = .ok (.aload_n 0, 1) := by decide +kernel
theorem d_Model_command_194 : decode b_Model_command 194 = .ok (.getfield 81, 3) := by decide +kernel
theorem d_Model_command_197 : decode b_Model_command 197 = .ok (.iconst 1, 1) := by decide +kernel
theorem d_Model_command_198 : decode b_Model_command 198 = .ok (.iconst 1, 1) := by decide +kernel
theorem d_Model_command_199 : decode b_Model_command 199 = .ok (.iastore, 1) := by decide +kernel
theorem d_Model_command_200 : decode b_Model_command 200 = .ok (.aload_n 0, 1) := by decide +kernel
theorem d_Model_command_201 : decode b_Model_command 201 = .ok (.getfield 81, 3) := by decide +kernel
theorem d_Model_command_204 : decode b_Model_command 204 = .ok (.iconst 2, 1) := by decide +kernel
theorem d_Model_command_205 : decode b_Model_command 205 = .ok (.iload_n 1, 1) := by decide +kernel
theorem d_Model_command_206 : decode b_Model_command 206 = .ok (.iastore, 1) := by decide +kernel
theorem d_Model_command_207 : decode b_Model_command 207 = .ok (.aload_n 0, 1) := by decide +kernel
theorem d_Model_command_208 : decode b_Model_command 208 = .ok (.getfield 81, 3) := by decide +kernel
theorem d_Model_command_211 : decode b_Model_command 211 = .ok (.iconst 3, 1) := by decide +kernel
theorem d_Model_command_212 : decode b_Model_command 212 = .ok (.iload_n 2, 1) := by decide +kernel
theorem d_Model_command_213 : decode b_Model_command 213 = .ok (.iastore, 1) := by decide +kernel
theorem d_Model_command_214 : decode b_Model_command 214 = .ok (.aload_n 0, 1) := by decide +kernel
theorem d_Model_command_215 : decode b_Model_command 215 = .ok (.getfield 81, 3) := by decide +kernel
theorem d_Model_command_218 : decode b_Model_command 218 = .ok (.iconst 4, 1) := by decide +kernel
theorem d_Model_command_219 : decode b_Model_command 219 = .ok (.iload_n 3, 1) := by decide +kernel
theorem d_Model_command_220 : decode b_Model_command 220 = .ok (.sipush 256, 3) := by decide +kernel
theorem d_Model_command_223 : decode b_Model_command 223 = .ok (.idiv, 1) := by decide +kernel
theorem d_Model_command_224 : decode b_Model_command 224 = .ok (.iastore, 1) := by decide +kernel
theorem d_Model_command_225 : decode b_Model_command 225 = .ok (.aload_n 0, 1) := by decide +kernel
theorem d_Model_command_226 : decode b_Model_command 226 = .ok (.getfield 81, 3) := by decide +kernel
theorem d_Model_command_229 : decode b_Model_command 229 = .ok (.iconst 5, 1) := by decide +kernel
theorem d_Model_command_230 : decode b_Model_command 230 = .ok (.iload_n 3, 1) := by decide +kernel
theorem d_Model_command_231 : decode b_Model_command 231 = .ok (.sipush 256, 3) := by decide +kernel
theorem d_Model_command_234 : decode b_Model_command 234 = .ok (.irem, 1) := by decide +kernel
theorem d_Model_command_235 : decode b_Model_command 235 = .ok (.iastore, 1) := by decide +kernel
theorem d_Model_command_236 : decode b_Model_command 236 = .ok (.aload_n 0, 1) := by decide +kernel
theorem d_Model_command_237 : decode b_Model_command 237 = .ok (.getfield 81, 3) := by decide +kernel
theorem d_Model_command_240 : decode b_Model_command 240 = .ok (.bipush 6, 2) := by decide +kernel
theorem d_Model_command_242 : decode b_Model_command 242 = .ok (.iload 4, 2) := by decide +kernel
theorem d_Model_command_244 : decode b_Model_command 244 = .ok (.iastore, 1) := by decide +kernel
theorem d_Model_command_245 : decode b_Model_command 245 = .ok (.aload_n 0, 1) := by decide +kernel
theorem d_Model_command_246 : decode b_Model_command 246 = .ok (.getfield 81, 3) := by decide +kernel
theorem d_Model_command_249 : decode b_Model_command 249 = .ok (.bipush 7, 2) := by decide +kernel
theorem d_Model_command_251 : decode b_Model_command 251 = .ok (.iload 5, 2) := by decide +kernel
theorem d_Model_command_253 : decode b_Model_command 253 = .ok (.iastore, 1) := by decide +kernel
theorem d_Model_command_254 : decode b_Model_command 254 = .ok (.iconst 0, 1) := by decide +kernel
theorem d_Model_command_255 : decode b_Model_command 255 = .ok (.istore 10, 2) := by decide +kernel
theorem d_Model_command_257 : decode b_Model_command 257 = .ok (.iconst 0, 1) := by decide +kernel
theorem d_Model_command_258 : decode b_Model_command 258 = .ok (.istore 11, 2) := by decide +kernel
theorem d_Model_command_260 : decode b_Model_command 260 = .ok (.iload 11, 2) := by decide +kernel
theorem d_Model_command_262 : decode b_Model_command 262 = .ok (.bipush 8, 2) := by decide +kernel
theorem d_Model_command_264 : decode b_Model_command 264 = .ok (.if_icmp .ge 23, 3) := by decide +kernel
theorem d_Model_command_267 : decode b_Model_command 267 = .ok (.iload 10, 2) := by decide +kernel
theorem d_Model_command_269 : decode b_Model_command 269 = .ok (.aload_n 0, 1) := by decide +kernel
theorem d_Model_command_270 : decode b_Model_command 270 = .ok (.getfield 81, 3) := by decide +kernel
theorem d_Model_command_273 : decode b_Model_command 273 = .ok (.iload 11, 2) := by decide +kernel
theorem d_Model_command_275 : decode b_Model_command 275 = .ok (.iaload, 1) := by decide +kernel
theorem d_Model_command_276 : decode b_Model_command 276 = .ok (.invokestatic 123, 3) := by decide +kernel
theorem d_Model_command_279 : decode b_Model_command 279 = .ok (.istore 10, 2) := by decide +kernel
theorem d_Model_command_281 : decode b_Model_command 281 = .ok (.iinc 11 1, 3) := by decide +kernel
theorem d_Model_command_284 : decode b_Model_command 284 = .ok (.goto (-24), 3) := by decide +kernel
theorem d_Model_command_287 : decode b_Model_command 287 = .ok (.aload_n 0, 1) := by decide +kernel
theorem d_Model_command_288 : decode b_Model_command 288 = .ok (.getfield 81, 3) := by decide +kernel
theorem d_Model_command_291 : decode b_Model_command 291 = .ok (.bipush 8, 2) := by decide +kernel
theorem d_Model_command_293 : decode b_Model_command 293 = .ok (.iload 7, 2) := by decide +kernel
theorem d_Model_command_295 : decode b_Model_command 295 = .ok (.iconst 2, 1) := by decide +kernel
theorem d_Model_command_296 : decode b_Model_command 296 = .ok (.irem, 1) := by decide +kernel
theorem d_Model_command_297 : decode b_Model_command 297 = .ok (.iconst 1, 1) := by decide +kernel
theorem d_Model_command_298 : decode b_Model_command 298 = .ok (.if_icmp .ne 10, 3) := by decide +kernel
theorem d_Model_command_301 : decode b_Model_command 301 = .ok (.iload 10, 2) := by decide +kernel
theorem d_Model_command_303 : decode b_Model_command 303 = .ok (.iconst 1, 1) := by decide +kernel
theorem d_Model_command_304 : decode b_Model_command 304 = .ok (.ixor, 1) := by decide +kernel
theorem d_Model_command_305 : decode b_Model_command 305 = .ok (.goto 5, 3) := by decide +kernel
theorem d_Model_command_308 : decode b_Model_command 308 = .ok (.iload 10, 2) := by decide +kernel
theorem d_Model_command_310 : decode b_Model_command 310 = .ok (.iastore, 1) := by decide +kernel
theorem d_Model_command_311 : decode b_Model_command 311 = .ok (.iconst 0, 1) := by decide +kernel
theorem d_Model_command_312 : decode b_Model_command 312 = .ok (.istore 10, 2) := by decide +kernel
theorem d_Model_command_314 : decode b_Model_command 314 = .ok (.iconst 0, 1) := by decide +kernel
theorem d_Model_command_315 : decode b_Model_command 315 = .ok (.istore 11, 2) := by decide +kernel
theorem d_Model_command_317 : decode b_Model_command 317 = .ok (.iload 11, 2) := by decide +kernel
theorem d_Model_command_319 : decode b_Model_command 319 = .ok (.iload 5, 2) := by decide +kernel
theorem d_Model_command_321 : decode b_Model_command 321 = .ok (.if_icmp .ge 44, 3) := by decide +kernel
theorem d_Model_command_324 : decode b_Model_command 324 = .ok (.aload_n 0, 1) := by decide +kernel
theorem d_Model_command_325 : decode b_Model_command 325 = .ok (.getfield 81, 3) := by decide +kernel
theorem d_Model_command_328 : decode b_Model_command 328 = .ok (.bipush 9, 2) := by decide +kernel
theorem d_Model_command_330 : decode b_Model_command 330 = .ok (.iload 11, 2) := by decide +kernel
theorem d_Model_command_332 : decode b_Model_command 332 = .ok (.iadd, 1) := by decide +kernel
theorem d_Model_command_333 : decode b_Model_command 333 = .ok (.iload 6, 2) := by decide +kernel
theorem d_Model_command_335 : decode b_Model_command 335 = .ok (.iload 11, 2) := by decide +kernel
theorem d_Model_command_337 : decode b_Model_command 337 = .ok (.iadd, 1) := by decide +kernel
theorem d_Model_command_338 : decode b_Model_command 338 = .ok (.sipush 256, 3) := by decide +kernel
theorem d_Model_command_341 : decode b_Model_command 341 = .ok (.irem, 1) := by decide +kernel
theorem d_Model_command_342 : decode b_Model_command 342 = .ok (.iastore, 1) := by decide +kernel
theorem d_Model_command_343 : decode b_Model_command 343 = .ok (.iload 10, 2) := by decide +kernel
theorem d_Model_command_345 : decode b_Model_command 345 = .ok (.iload 6, 2) := by decide +kernel
theorem d_Model_command_347 : decode b_Model_command 347 = .ok (.iload 11, 2) := by decide +kernel
theorem d_Model_command_349 : decode b_Model_command 349 = .ok (.iadd, 1) := by decide +kernel
theorem d_Model_command_350 : decode b_Model_command 350 = .ok (.sipush 256, 3) := by decide +kernel
theorem d_Model_command_353 : decode b_Model_command 353 = .ok (.irem, 1) := by decide +kernel
theorem d_Model_command_354 : decode b_Model_command 354 = .ok (.invokestatic 123, 3) := by decide +kernel
theorem d_Model_command_357 : decode b_Model_command 357 = .ok (.istore 10, 2) := by decide +kernel
theorem d_Model_command_359 : decode b_Model_command 359 = .ok (.iinc 11 1, 3) := by decide +kernel
theorem d_Model_command_362 : decode b_Model_command 362 = .ok (.goto (-45), 3) := by decide +kernel
theorem d_Model_command_365 : decode b_Model_command 365 = .ok (.aload_n 0, 1) := by decide +kernel
theorem d_Model_command_366 : decode b_Model_command 366 = .ok (.getfield 81, 3) := by decide +kernel
theorem d_Model_command_369 : decode b_Model_command 369 = .ok (.bipush 9, 2) := by decide +kernel
theorem d_Model_command_371 : decode b_Model_command 371 = .ok (.iload 5, 2) := by decide +kernel
theorem d_Model_command_373 : decode b_Model_command 373 = .ok (.iadd, 1) := by decide +kernel
theorem d_Model_command_374 : decode b_Model_command 374 = .ok (.iload 7, 2) := by decide +kernel
theorem d_Model_command_376 : decode b_Model_command 376 = .ok (.iconst 2, 1) := by decide +kernel
theorem d_Model_command_377 : decode b_Model_command 377 = .ok (.idiv, 1) := by decide +kernel
theorem d_Model_command_378 : decode b_Model_command 378 = .ok (.iconst 2, 1) := by decide +kernel
theorem d_Model_command_379 : decode b_Model_command 379 = .ok (.irem, 1) := by decide +kernel
theorem d_Model_command_380 : decode b_Model_command 380 = .ok (.iconst 1, 1) := by decide +kernel
theorem d_Model_command_381 : decode b_Model_command 381 = .ok (.if_icmp .ne 10, 3) := by decide +kernel
theorem d_Model_command_384 : decode b_Model_command 384 = .ok (.iload 10, 2) := by decide +kernel
theorem d_Model_command_386 : decode b_Model_command 386 = .ok (.iconst 1, 1) := by decide +kernel
theorem d_Model_command_387 : decode b_Model_command 387 = .ok (.ixor, 1) := by decide +kernel
theorem d_Model_command_388 : decode b_Model_command 388 = .ok (.goto 5, 3) := by decide +kernel
theorem d_Model_command_391 : decode b_Model_command 391 = .ok (.iload 10, 2) := by decide +kernel
theorem d_Model_command_393 : decode b_Model_command 393 = .ok (.iastore, 1) := by decide +kernel
theorem d_Model_command_394 : decode b_Model_command 394 = .ok (.aload_n 0, 1) := by decide +kernel
theorem d_Model_command_395 : decode b_Model_command 395 = .ok (.getfield 81, 3) := by decide +kernel
theorem d_Model_command_398 : decode b_Model_command 398 = .ok (.iload 9, 2) := by decide +kernel
theorem d_Model_command_400 : decode b_Model_command 400 = .ok (.iconst 2, 1) := by decide +kernel
theorem d_Model_command_401 : decode b_Model_command 401 = .ok (.isub, 1) := by decide +kernel
theorem d_Model_command_402 : decode b_Model_command 402 = .ok (.iload 8, 2) := by decide +kernel
theorem d_Model_command_404 : decode b_Model_command 404 = .ok (.ifCond .eq 18, 3) := by decide +kernel
theorem d_Model_command_407 : decode b_Model_command 407 = .ok (.iload 7, 2) := by decide +kernel
theorem d_Model_command_409 : decode b_Model_command 409 = .ok (.bipush 8, 2) := by decide +kernel
theorem d_Model_command_411 : decode b_Model_command 411 = .ok (.idiv, 1) := by decide +kernel
theorem d_Model_command_412 : decode b_Model_command 412 = .ok (.iconst 2, 1) := by decide +kernel
theorem d_Model_command_413 : decode b_Model_command 413 = .ok (.irem, 1) := by decide +kernel
theorem d_Model_command_414 : decode b_Model_command 414 = .ok (.iconst 1, 1) := by decide +kernel
theorem d_Model_command_415 : decode b_Model_command 415 = .ok (.if_icmp .ne 7, 3) := by decide +kernel
theorem d_Model_command_418 : decode b_Model_command 418 = .ok (.iconst 0, 1) := by decide +kernel
theorem d_Model_command_419 : decode b_Model_command 419 = .ok (.goto 12, 3) := by decide +kernel
theorem d_Model_command_422 : decode b_Model_command 422 = .ok (.aload_n 0, 1) := by decide +kernel
theorem d_Model_command_423 : decode b_Model_command 423 = .ok (.getfield 81, 3) := by decide +kernel
theorem d_Model_command_426 : decode b_Model_command 426 = .ok (.iload 9, 2) := by decide +kernel
theorem d_Model_command_428 : decode b_Model_command 428 = .ok (.iconst 2, 1) := by decide +kernel
theorem d_Model_command_429 : decode b_Model_command 429 = .ok (.isub, 1) := by decide +kernel
theorem d_Model_command_430 : decode b_Model_command 430 = .ok (.iaload, 1) := by decide +kernel
theorem d_Model_command_431 : decode b_Model_command 431 = .ok (.iastore, 1) := by decide +kernel
theorem d_Model_command_432 : decode b_Model_command 432 = .ok (.aload_n 0, 1) := by decide +kernel
theorem d_Model_command_433 : decode b_Model_command 433 = .ok (.getfield 81, 3) := by decide +kernel
theorem d_Model_command_436 : decode b_Model_command 436 = .ok (.iload 9, 2) := by decide +kernel
theorem d_Model_command_438 : decode b_Model_command 438 = .ok (.iconst 1, 1) := by decide +kernel
theorem d_Model_command_439 : decode b_Model_command 439 = .ok (.isub, 1) := by decide +kernel
theorem d_Model_command_440 : decode b_Model_command 440 = .ok (.iload 7, 2) := by decide +kernel
theorem d_Model_command_442 : decode b_Model_command 442 = .ok (.bipush 16, 2) := by decide +kernel
theorem d_Model_command_444 : decode b_Model_command 444 = .ok (.idiv, 1) := by decide +kernel
theorem d_Model_command_445 : decode b_Model_command 445 = .ok (.iconst 1, 1) := by decide +kernel
theorem d_Model_command_446 : decode b_Model_command 446 = .ok (.if_icmp .ne 9, 3) := by decide +kernel
theorem d_Model_command_449 : decode b_Model_command 449 = .ok (.sipush 257, 3) := by decide +kernel
theorem d_Model_command_452 : decode b_Model_command 452 = .ok (.goto 6, 3) := by decide +kernel
theorem d_Model_command_455 : decode b_Model_command 455 = .ok (.sipush 256, 3) := by decide +kernel
theorem d_Model_command_458 : decode b_Model_command 458 = .ok (.iastore, 1) := by decide +kernel
theorem d_Model_command_459 : decode b_Model_command 459 = .ok (.iconst 0, 1) := by decide +kernel
theorem d_Model_command_460 : decode b_Model_command 460 = .ok (.istore 11, 2) := by decide +kernel
theorem d_Model_command_462 : decode b_Model_command 462 = .ok (.iload 11, 2) := by decide +kernel
theorem d_Model_command_464 : decode b_Model_command 464 = .ok (.iload 9, 2) := by decide +kernel
theorem d_Model_command_466 : decode b_Model_command 466 = .ok (.if_icmp .ge 21, 3) := by decide +kernel
theorem d_Model_command_469 : decode b_Model_command 469 = .ok (.aload_n 0, 1) := by decide +kernel
theorem d_Model_command_470 : decode b_Model_command 470 = .ok (.iconst 0, 1) := by decide +kernel
theorem d_Model_command_471 : decode b_Model_command 471 = .ok (.aload_n 0, 1) := by decide +kernel
theorem d_Model_command_472 : decode b_Model_command 472 = .ok (.getfield 81, 3) := by decide +kernel
theorem d_Model_command_475 : decode b_Model_command 475 = .ok (.iload 11, 2) := by decide +kernel
theorem d_Model_command_477 : decode b_Model_command 477 = .ok (.iaload, 1) := by decide +kernel
theorem d_Model_command_478 : decode b_Model_command 478 = .ok (.invokevirtual 170, 3) := by decide +kernel
theorem d_Model_command_481 : decode b_Model_command 481 = .ok (.iinc 11 1, 3) := by decide +kernel
theorem d_Model_command_484 : decode b_Model_command 484 = .ok (.goto (-22), 3) := by decide +kernel
theorem d_Model_command_487 : decode b_Model_command 487 = .ok (.aload_n 0, 1) := by decide +kernel
theorem d_Model_command_488 : decode b_Model_command 488 = .ok (.getfield 59, 3) := by decide +kernel
theorem d_Model_command_491 : decode b_Model_command 491 = .ok (.iconst 0, 1) := by decide +kernel
theorem d_Model_command_492 : decode b_Model_command 492 = .ok (.iaload, 1) := by decide +kernel
theorem d_Model_command_493 : decode b_Model_command 493 = .ok (.ireturn, 1) := by decide +kernel
theorem xite {α : Type} {P : α → Prop} {c : Prop} [Decidable c] {a b : α} (h1 : P a) (h2 : P b) : P (if c then a else b) := by
  by_cases h : c
  · rw [if_pos h]; exact h1
  · rw [if_neg h]; exact h2
theorem di_nn {d : Int32} {a b : Nat} (ha : a < 1048576) (hb : b < 1048576) {y : Int32} (hy : y = nI a ∨ y = nI b) : ¬ y < 0 := by
  rcases hy with rfl | rfl
  · exact nI_pos (by omega)
  · exact nI_pos (by omega)
theorem di_cl {a b : Nat} (ha : a < 1048576) (hb : b < 1048576) {y : Int32} (hy : y = nI a ∨ y = nI b) : y.toNatClampNeg = a ∨ y.toNatClampNeg = b := by
  rcases hy with rfl | rfl
  · exact Or.inl (nI_clamp (by omega))
  · exact Or.inr (nI_clamp (by omega))
def lp_mapp (n3 : Nat) (dr4 : Nat → Int32) : Nat → Nat → (Nat → Int32) → (Nat → List Int32) → Int32 × (Nat → Int32) × (Nat → Int32) × (Nat → List Int32)
  | 0, j, th1, Ls1 => (nI ((Ls1 0).length), dr4, th1, Ls1)
  | nlp_mapp + 1, j, th1, Ls1 => if (nI n3) ≤ (nI j) then (nI ((Ls1 0).length), dr4, th1, Ls1) else (bnd2 (s_Model_append th1 Ls1 0 (dr4 j)) (fun th33 Ls33 => lp_mapp n3 dr4 nlp_mapp (j + 1) th33 Ls33))
def s_Model_command_365 (th : Nat → Int32) (Ls : Nat → List Int32) (x7 : Int32) (ln : Nat) (y16 : Int32) (n3 : Nat) (xc : Int32) (dr3 : Nat → Int32) : Int32 × (Nat → Int32) × (Nat → Int32) × (Nat → List Int32) := bnd (α := Int32) (if ((x7 / 2) - (x7 / 2) / 2 * 2) = 1 then (xc ^^^ 1) else (xc)) (fun y26 => bnd (α := Int32) (if y16 = 0 then ((upd dr3 (9 + ln) y26) (n3 - 2)) else (if ((x7 / 8) - (x7 / 8) / 2 * 2) = 1 then (0) else ((upd dr3 (9 + ln) y26) (n3 - 2)))) (fun y28 => bnd (α := Int32) (if (x7 / 16) = 1 then (257) else (256)) (fun y30 => bnd (upd (upd (upd dr3 (9 + ln) y26) (n3 - 2) y28) (n3 - 1) y30) (fun dr4 => lp_mapp n3 dr4 (n3 - 0) 0 th Ls))))
def lp_mcom (th : Nat → Int32) (Ls : Nat → List Int32) (x6 : Int32) (x7 : Int32) (ln : Nat) (y16 : Int32) (n3 : Nat) : Nat → Nat → Int32 → (Nat → Int32) → Int32 × (Nat → Int32) × (Nat → Int32) × (Nat → List Int32)
  | 0, j, xc, dr3 => s_Model_command_365 th Ls x7 ln y16 n3 xc dr3
  | nlp_mcom + 1, j, xc, dr3 => if (nI ln) ≤ (nI j) then (s_Model_command_365 th Ls x7 ln y16 n3 xc dr3) else (lp_mcom th Ls x6 x7 ln y16 n3 nlp_mcom (j + 1) (s_Model_mixed xc ((x6 + (nI j)) - (x6 + (nI j)) / 256 * 256)) (upd dr3 (9 + j) ((x6 + (nI j)) - (x6 + (nI j)) / 256 * 256)))
def s_Model_command (dr : Nat → Int32) (th : Nat → Int32) (Ls : Nat → List Int32) (x1 : Int32) (x2 : Int32) (x3 : Int32) (x4 : Int32) (x5 : Int32) (x6 : Int32) (x7 : Int32) : Int32 × (Nat → Int32) × (Nat → Int32) × (Nat → List Int32) := if (s_Model_fits x1 255) = 0 then ((-1), dr, th, Ls) else (if (s_Model_fits x2 255) = 0 then ((-1), dr, th, Ls) else (if (s_Model_fits x3 65535) = 0 then ((-1), dr, th, Ls) else (if (s_Model_fits x4 255) = 0 then ((-1), dr, th, Ls) else (if (s_Model_fits x5 24) = 0 then ((-1), dr, th, Ls) else (if (s_Model_fits x6 255) = 0 then ((-1), dr, th, Ls) else (if (s_Model_fits x7 31) = 0 then ((-1), dr, th, Ls) else (bnd (x5.toNatClampNeg) (fun ln => bnd (α := Int32) (if (x1 &&& 48) = 0 then (0) else (1)) (fun y16 => bnd (α := Int32) (if y16 = 0 then (0) else (nI (ln + 1))) (fun y18 => bnd (y18.toNatClampNeg) (fun n1 => bnd (α := Int32) (if y16 = 0 then (nI (10 + n1)) else (if ((x7 / 4) - (x7 / 4) / 2 * 2) = 1 then ((nI (10 + n1)) - 1) else (nI (10 + n1)))) (fun y20 => bnd (y20.toNatClampNeg) (fun n2 => bnd (α := Int32) (if y16 = 0 then (nI n2) else (if ((x7 / 8) - (x7 / 8) / 2 * 2) = 1 then (nI (n2 + 1)) else (nI n2))) (fun y22 => bnd (y22.toNatClampNeg) (fun n3 => if (64 - (nI ((Ls 0).length))) < (nI n3) then ((-2), dr, th, Ls) else (if (th 0) = 0 then (bnd (upd (upd (upd (upd (upd (upd (upd (upd dr 0 254) 1 1) 2 x1) 3 x2) 4 (x3 / 256)) 5 (x3 - x3 / 256 * 256)) 6 x4) 7 (nI ln)) (fun dr1 => bnd (α := Int32) (s_Model_mixed 0 (dr1 0)) (fun cx39 => bnd (α := Int32) (s_Model_mixed cx39 (dr1 1)) (fun cx41 => bnd (α := Int32) (s_Model_mixed cx41 (dr1 2)) (fun cx43 => bnd (α := Int32) (s_Model_mixed cx43 (dr1 3)) (fun cx45 => bnd (α := Int32) (s_Model_mixed cx45 (dr1 4)) (fun cx47 => bnd (α := Int32) (s_Model_mixed cx47 (dr1 5)) (fun cx49 => bnd (α := Int32) (s_Model_mixed cx49 (dr1 6)) (fun cx51 => bnd (α := Int32) (s_Model_mixed cx51 (dr1 7)) (fun cx53 => bnd (α := Int32) (if (x7 - x7 / 2 * 2) = 1 then (cx53 ^^^ 1) else (cx53)) (fun y55 => bnd (upd dr1 8 y55) (fun dr2 => lp_mcom th Ls x6 x7 ln y16 n3 (ln - 0) 0 0 dr2)))))))))))) else ((-2), dr, th, Ls)))))))))))))))))
abbrev rm_Model_command : Room := { frames := 2, cells := 0, slots := 0, locals := 44 }
set_option maxHeartbeats 1000000 in
set_option maxRecDepth 100000 in
theorem c_Model_command {l : Launch} {D : va_G} {cI cZ : ClassId} (dr : Nat → Int32) (th : Nat → Int32) (Ls : Nat → List Int32) (x1 : Int32) (x2 : Int32) (x3 : Int32) (x4 : Int32) (x5 : Int32) (x6 : Int32) (x7 : Int32) (h0 : Nat) (a_st : Nat) (a_ck : Nat) (a_en : Nat) (a_au : Nat) (a_he : Nat) (a_qu : Nat) (a_lo : Nat) (a_ow : Nat) (a_fl : Nat) (a_ti : Nat) (a_gd : Nat) (a_ak : Nat) (a_sp : Nat) (a_se : Nat) (a_sd : Nat) (a_rw : Nat) (a_sz : Nat) (a_op : Nat) (a_th : Nat) (a_me : Nat) (a_pk : Nat) (a_re : Nat) (a_dr : Nat) (tg : Int32) (kc : Nat) (cm : Int32) (su : Int32) (kq : Nat) (rw : Nat → Int32) (hM : RepM rw Ls) (sz : Nat) : Met l y_Model_command (w_Model_command) rm_Model_command (va_Pc [.ref h0, .int x1, .int x2, .int x3, .int x4, .int x5, .int x6, .int x7] (xPre xNs D vwCl cI cZ [(h0, .inr (7, [.int tg, .ref a_st, .ref a_ck, .ref a_en, .ref a_au, .ref a_he, .ref a_qu, .ref a_lo, .ref a_ow, .ref a_fl, .ref a_ti, .ref a_gd, .ref a_ak, .ref a_sp, .ref a_se, .ref a_sd, .ref a_rw, .ref a_sz, .ref a_op, .ref a_th, .ref a_me, .ref a_pk, .int (nI kc), .int cm, .int su, .ref a_re, .int (nI kq), .ref a_dr])), (a_dr, .inl (cI, 40, .inl dr)), (a_th, .inl (cZ, 2, .inl th)), (a_rw, .inl (cI, 256, .inl rw)), (a_sz, .inl (cI, 4, .inl (szf Ls)))] sz)) (va_Qi (fun (r : Int32) (u : (Nat → Int32) × (Nat → Int32) × (Nat → List Int32) × (Nat → Int32)) => (r, u.1, u.2.1, u.2.2.1) = s_Model_command dr th Ls x1 x2 x3 x4 x5 x6 x7 ∧ RepM u.2.2.2 u.2.2.1) (fun u t9 => xAt D vwCl (va_A [(h0, .inr (7, [.int tg, .ref a_st, .ref a_ck, .ref a_en, .ref a_au, .ref a_he, .ref a_qu, .ref a_lo, .ref a_ow, .ref a_fl, .ref a_ti, .ref a_gd, .ref a_ak, .ref a_sp, .ref a_se, .ref a_sd, .ref a_rw, .ref a_sz, .ref a_op, .ref a_th, .ref a_me, .ref a_pk, .int (nI kc), .int cm, .int su, .ref a_re, .int (nI kq), .ref a_dr])), (a_dr, .inl (cI, 40, .inl dr)), (a_th, .inl (cZ, 2, .inl th)), (a_rw, .inl (cI, 256, .inl rw)), (a_sz, .inl (cI, 4, .inl (szf Ls)))] sz) [(h0, .inr (7, [.int tg, .ref a_st, .ref a_ck, .ref a_en, .ref a_au, .ref a_he, .ref a_qu, .ref a_lo, .ref a_ow, .ref a_fl, .ref a_ti, .ref a_gd, .ref a_ak, .ref a_sp, .ref a_se, .ref a_sd, .ref a_rw, .ref a_sz, .ref a_op, .ref a_th, .ref a_me, .ref a_pk, .int (nI kc), .int cm, .int su, .ref a_re, .int (nI kq), .ref a_dr])), (a_dr, .inl (cI, 40, .inl u.1)), (a_th, .inl (cZ, 2, .inl u.2.1)), (a_rw, .inl (cI, 256, .inl u.2.2.2)), (a_sz, .inl (cI, 4, .inl (szf u.2.2.1)))] t9) (va_A [(h0, .inr (7, [.int tg, .ref a_st, .ref a_ck, .ref a_en, .ref a_au, .ref a_he, .ref a_qu, .ref a_lo, .ref a_ow, .ref a_fl, .ref a_ti, .ref a_gd, .ref a_ak, .ref a_sp, .ref a_se, .ref a_sd, .ref a_rw, .ref a_sz, .ref a_op, .ref a_th, .ref a_me, .ref a_pk, .int (nI kc), .int cm, .int su, .ref a_re, .int (nI kq), .ref a_dr])), (a_dr, .inl (cI, 40, .inl dr)), (a_th, .inl (cZ, 2, .inl th)), (a_rw, .inl (cI, 256, .inl rw)), (a_sz, .inl (cI, 4, .inl (szf Ls)))] sz)) 0 0 (va_A [(h0, .inr (7, [.int tg, .ref a_st, .ref a_ck, .ref a_en, .ref a_au, .ref a_he, .ref a_qu, .ref a_lo, .ref a_ow, .ref a_fl, .ref a_ti, .ref a_gd, .ref a_ak, .ref a_sp, .ref a_se, .ref a_sd, .ref a_rw, .ref a_sz, .ref a_op, .ref a_th, .ref a_me, .ref a_pk, .int (nI kc), .int cm, .int su, .ref a_re, .int (nI kq), .ref a_dr])), (a_dr, .inl (cI, 40, .inl dr)), (a_th, .inl (cZ, 2, .inl th)), (a_rw, .inl (cI, 256, .inl rw)), (a_sz, .inl (cI, 4, .inl (szf Ls)))] sz) := by
  refine xBody_i (S := (Nat → Int32) × (Nat → Int32) × (Nat → List Int32) × (Nat → Int32)) (cc := b_Model_command) (maxL := 12) (by decide) rfl (Nat.le_of_ble_eq_true rfl) ?_
  intro p e s m args below meth c A H ls Q hx hb hml hin hts hown hP hD hK hN hS hA hl hret
  replace hl : lv_has ls 12 [(0, .ref h0), (1, .int x1), (2, .int x2), (3, .int x3), (4, .int x4), (5, .int x5), (6, .int x6), (7, .int x7)] := hl
  have hin_Model : ∀ w ∈ u_ws R_Model F_Model 28, w ∈ (w_Model_command) := (fun w h => xm (lay_Model w h))
  have hq : s_Model_command dr th Ls x1 x2 x3 x4 x5 x6 x7 = (if (s_Model_fits x1 255) = 0 then ((-1), dr, th, Ls) else (if (s_Model_fits x2 255) = 0 then ((-1), dr, th, Ls) else (if (s_Model_fits x3 65535) = 0 then ((-1), dr, th, Ls) else (if (s_Model_fits x4 255) = 0 then ((-1), dr, th, Ls) else (if (s_Model_fits x5 24) = 0 then ((-1), dr, th, Ls) else (if (s_Model_fits x6 255) = 0 then ((-1), dr, th, Ls) else (if (s_Model_fits x7 31) = 0 then ((-1), dr, th, Ls) else (bnd (x5.toNatClampNeg) (fun ln => bnd (α := Int32) (if (x1 &&& 48) = 0 then (0) else (1)) (fun y16 => bnd (α := Int32) (if y16 = 0 then (0) else (nI (ln + 1))) (fun y18 => bnd (y18.toNatClampNeg) (fun n1 => bnd (α := Int32) (if y16 = 0 then (nI (10 + n1)) else (if ((x7 / 4) - (x7 / 4) / 2 * 2) = 1 then ((nI (10 + n1)) - 1) else (nI (10 + n1)))) (fun y20 => bnd (y20.toNatClampNeg) (fun n2 => bnd (α := Int32) (if y16 = 0 then (nI n2) else (if ((x7 / 8) - (x7 / 8) / 2 * 2) = 1 then (nI (n2 + 1)) else (nI n2))) (fun y22 => bnd (y22.toNatClampNeg) (fun n3 => if (64 - (nI ((Ls 0).length))) < (nI n3) then ((-2), dr, th, Ls) else (if (th 0) = 0 then (bnd (upd (upd (upd (upd (upd (upd (upd (upd dr 0 254) 1 1) 2 x1) 3 x2) 4 (x3 / 256)) 5 (x3 - x3 / 256 * 256)) 6 x4) 7 (nI ln)) (fun dr1 => bnd (α := Int32) (s_Model_mixed 0 (dr1 0)) (fun cx39 => bnd (α := Int32) (s_Model_mixed cx39 (dr1 1)) (fun cx41 => bnd (α := Int32) (s_Model_mixed cx41 (dr1 2)) (fun cx43 => bnd (α := Int32) (s_Model_mixed cx43 (dr1 3)) (fun cx45 => bnd (α := Int32) (s_Model_mixed cx45 (dr1 4)) (fun cx47 => bnd (α := Int32) (s_Model_mixed cx47 (dr1 5)) (fun cx49 => bnd (α := Int32) (s_Model_mixed cx49 (dr1 6)) (fun cx51 => bnd (α := Int32) (s_Model_mixed cx51 (dr1 7)) (fun cx53 => bnd (α := Int32) (if (x7 - x7 / 2 * 2) = 1 then (cx53 ^^^ 1) else (cx53)) (fun y55 => bnd (upd dr1 8 y55) (fun dr2 => lp_mcom th Ls x6 x7 ln y16 n3 (ln - 0) 0 0 dr2)))))))))))) else ((-2), dr, th, Ls)))))))))))))))))) := rfl
  refine lv_iload_n hx hb d_Model_command_0 rfl (lv_at hl 1 rfl) ?_
  refine lv_sipush (v := 255) hx hb d_Model_command_1 rfl ?_
  refine xcall_i (wc := []) (wr := [(h0, .inr (7, [.int tg, .ref a_st, .ref a_ck, .ref a_en, .ref a_au, .ref a_he, .ref a_qu, .ref a_lo, .ref a_ow, .ref a_fl, .ref a_ti, .ref a_gd, .ref a_ak, .ref a_sp, .ref a_se, .ref a_sd, .ref a_rw, .ref a_sz, .ref a_op, .ref a_th, .ref a_me, .ref a_pk, .int (nI kc), .int cm, .int su, .ref a_re, .int (nI kq), .ref a_dr])), (a_dr, .inl (cI, 40, .inl dr)), (a_th, .inl (cZ, 2, .inl th)), (a_rw, .inl (cI, 256, .inl rw)), (a_sz, .inl (cI, 4, .inl (szf Ls)))]) (ws1 := fun (u : Unit) => [(h0, .inr (7, [.int tg, .ref a_st, .ref a_ck, .ref a_en, .ref a_au, .ref a_he, .ref a_qu, .ref a_lo, .ref a_ow, .ref a_fl, .ref a_ti, .ref a_gd, .ref a_ak, .ref a_sp, .ref a_se, .ref a_sd, .ref a_rw, .ref a_sz, .ref a_op, .ref a_th, .ref a_me, .ref a_pk, .int (nI kc), .int cm, .int su, .ref a_re, .int (nI kq), .ref a_dr])), (a_dr, .inl (cI, 40, .inl dr)), (a_th, .inl (cZ, 2, .inl th)), (a_rw, .inl (cI, 256, .inl rw)), (a_sz, .inl (cI, 4, .inl (szf Ls)))]) (va_runS (As := [.int x1, .int 255]) (rest := []) ⟨hx, hb, hml, hown, hts⟩ (c_Model_fits x1 255 H.size) (xcwS 2 hts ww_731 ww_729 ww_730 ww_8 (by decide +kernel) rfl rfl ⟨Nat.le_of_ble_eq_true rfl, Nat.le_of_ble_eq_true rfl⟩) (xPreS (hP.sub [] rfl) (hD.sub [] (by decide) rfl) hK hN) rfl rfl hl.1 rfl (lv_room (Nat.le_of_ble_eq_true rfl)) d_Model_command_4 ⟨Nat.le_of_ble_eq_true rfl, Nat.le_of_ble_eq_true rfl⟩) hP hD hS hA [] [0, 1, 2, 3, 4] [0, 1, 2, 3, 4] rfl rfl (by decide) (by decide) (by decide) (fun _ => rfl) (fun r1 u1 H locs hw hP hD hS => ?_)
  obtain ⟨hw, hbr_1⟩ := hw
  subst hw
  replace hP : va_P D vwCl [(h0, .inr (7, [.int tg, .ref a_st, .ref a_ck, .ref a_en, .ref a_au, .ref a_he, .ref a_qu, .ref a_lo, .ref a_ow, .ref a_fl, .ref a_ti, .ref a_gd, .ref a_ak, .ref a_sp, .ref a_se, .ref a_sd, .ref a_rw, .ref a_sz, .ref a_op, .ref a_th, .ref a_me, .ref a_pk, .int (nI kc), .int cm, .int su, .ref a_re, .int (nI kq), .ref a_dr])), (a_dr, .inl (cI, 40, .inl dr)), (a_th, .inl (cZ, 2, .inl th)), (a_rw, .inl (cI, 256, .inl rw)), (a_sz, .inl (cI, 4, .inl (szf Ls)))] H := hP
  replace hD : va_D A [(h0, .inr (7, [.int tg, .ref a_st, .ref a_ck, .ref a_en, .ref a_au, .ref a_he, .ref a_qu, .ref a_lo, .ref a_ow, .ref a_fl, .ref a_ti, .ref a_gd, .ref a_ak, .ref a_sp, .ref a_se, .ref a_sd, .ref a_rw, .ref a_sz, .ref a_op, .ref a_th, .ref a_me, .ref a_pk, .int (nI kc), .int cm, .int su, .ref a_re, .int (nI kq), .ref a_dr])), (a_dr, .inl (cI, 40, .inl dr)), (a_th, .inl (cZ, 2, .inl th)), (a_rw, .inl (cI, 256, .inl rw)), (a_sz, .inl (cI, 4, .inl (szf Ls)))] := hD
  refine lv_if_eq (tgt := 71) hx hb d_Model_command_7 rfl (fun h2 => ?_) (fun h2 => ?_)
  · replace hq := hq.trans (if_pos h2)
    refine lv_iconst (v := (-1)) hx hb d_Model_command_71 rfl ?_
    exact hret (-1) (dr, th, Ls, rw) ⟨hq.symm, hM⟩ _ _ _ _ hP hD hS d_Model_command_72
  replace hq := hq.trans (if_neg h2)
  refine lv_iload_n hx hb d_Model_command_10 rfl (lv_at hl 2 rfl) ?_
  refine lv_sipush (v := 255) hx hb d_Model_command_11 rfl ?_
  refine xcall_i (wc := []) (wr := [(h0, .inr (7, [.int tg, .ref a_st, .ref a_ck, .ref a_en, .ref a_au, .ref a_he, .ref a_qu, .ref a_lo, .ref a_ow, .ref a_fl, .ref a_ti, .ref a_gd, .ref a_ak, .ref a_sp, .ref a_se, .ref a_sd, .ref a_rw, .ref a_sz, .ref a_op, .ref a_th, .ref a_me, .ref a_pk, .int (nI kc), .int cm, .int su, .ref a_re, .int (nI kq), .ref a_dr])), (a_dr, .inl (cI, 40, .inl dr)), (a_th, .inl (cZ, 2, .inl th)), (a_rw, .inl (cI, 256, .inl rw)), (a_sz, .inl (cI, 4, .inl (szf Ls)))]) (ws1 := fun (u : Unit) => [(h0, .inr (7, [.int tg, .ref a_st, .ref a_ck, .ref a_en, .ref a_au, .ref a_he, .ref a_qu, .ref a_lo, .ref a_ow, .ref a_fl, .ref a_ti, .ref a_gd, .ref a_ak, .ref a_sp, .ref a_se, .ref a_sd, .ref a_rw, .ref a_sz, .ref a_op, .ref a_th, .ref a_me, .ref a_pk, .int (nI kc), .int cm, .int su, .ref a_re, .int (nI kq), .ref a_dr])), (a_dr, .inl (cI, 40, .inl dr)), (a_th, .inl (cZ, 2, .inl th)), (a_rw, .inl (cI, 256, .inl rw)), (a_sz, .inl (cI, 4, .inl (szf Ls)))]) (va_runS (As := [.int x2, .int 255]) (rest := []) ⟨hx, hb, hml, hown, hts⟩ (c_Model_fits x2 255 H.size) (xcwS 2 hts ww_731 ww_729 ww_730 ww_8 (by decide +kernel) rfl rfl ⟨Nat.le_of_ble_eq_true rfl, Nat.le_of_ble_eq_true rfl⟩) (xPreS (hP.sub [] rfl) (hD.sub [] (by decide) rfl) hK hN) rfl rfl hl.1 rfl (lv_room (Nat.le_of_ble_eq_true rfl)) d_Model_command_14 ⟨Nat.le_of_ble_eq_true rfl, Nat.le_of_ble_eq_true rfl⟩) hP hD hS hA [] [0, 1, 2, 3, 4] [0, 1, 2, 3, 4] rfl rfl (by decide) (by decide) (by decide) (fun _ => rfl) (fun r3 u3 H locs hw hP hD hS => ?_)
  obtain ⟨hw, hbr_3⟩ := hw
  subst hw
  replace hP : va_P D vwCl [(h0, .inr (7, [.int tg, .ref a_st, .ref a_ck, .ref a_en, .ref a_au, .ref a_he, .ref a_qu, .ref a_lo, .ref a_ow, .ref a_fl, .ref a_ti, .ref a_gd, .ref a_ak, .ref a_sp, .ref a_se, .ref a_sd, .ref a_rw, .ref a_sz, .ref a_op, .ref a_th, .ref a_me, .ref a_pk, .int (nI kc), .int cm, .int su, .ref a_re, .int (nI kq), .ref a_dr])), (a_dr, .inl (cI, 40, .inl dr)), (a_th, .inl (cZ, 2, .inl th)), (a_rw, .inl (cI, 256, .inl rw)), (a_sz, .inl (cI, 4, .inl (szf Ls)))] H := hP
  replace hD : va_D A [(h0, .inr (7, [.int tg, .ref a_st, .ref a_ck, .ref a_en, .ref a_au, .ref a_he, .ref a_qu, .ref a_lo, .ref a_ow, .ref a_fl, .ref a_ti, .ref a_gd, .ref a_ak, .ref a_sp, .ref a_se, .ref a_sd, .ref a_rw, .ref a_sz, .ref a_op, .ref a_th, .ref a_me, .ref a_pk, .int (nI kc), .int cm, .int su, .ref a_re, .int (nI kq), .ref a_dr])), (a_dr, .inl (cI, 40, .inl dr)), (a_th, .inl (cZ, 2, .inl th)), (a_rw, .inl (cI, 256, .inl rw)), (a_sz, .inl (cI, 4, .inl (szf Ls)))] := hD
  refine lv_if_eq (tgt := 71) hx hb d_Model_command_17 rfl (fun h4 => ?_) (fun h4 => ?_)
  · replace hq := hq.trans (if_pos h4)
    refine lv_iconst (v := (-1)) hx hb d_Model_command_71 rfl ?_
    exact hret (-1) (dr, th, Ls, rw) ⟨hq.symm, hM⟩ _ _ _ _ hP hD hS d_Model_command_72
  replace hq := hq.trans (if_neg h4)
  refine lv_iload_n hx hb d_Model_command_20 rfl (lv_at hl 3 rfl) ?_
  refine lv_ldc (v := 65535) hx hb hown (hts _ (xm ww_732)) d_Model_command_21 ?_
  refine xcall_i (wc := []) (wr := [(h0, .inr (7, [.int tg, .ref a_st, .ref a_ck, .ref a_en, .ref a_au, .ref a_he, .ref a_qu, .ref a_lo, .ref a_ow, .ref a_fl, .ref a_ti, .ref a_gd, .ref a_ak, .ref a_sp, .ref a_se, .ref a_sd, .ref a_rw, .ref a_sz, .ref a_op, .ref a_th, .ref a_me, .ref a_pk, .int (nI kc), .int cm, .int su, .ref a_re, .int (nI kq), .ref a_dr])), (a_dr, .inl (cI, 40, .inl dr)), (a_th, .inl (cZ, 2, .inl th)), (a_rw, .inl (cI, 256, .inl rw)), (a_sz, .inl (cI, 4, .inl (szf Ls)))]) (ws1 := fun (u : Unit) => [(h0, .inr (7, [.int tg, .ref a_st, .ref a_ck, .ref a_en, .ref a_au, .ref a_he, .ref a_qu, .ref a_lo, .ref a_ow, .ref a_fl, .ref a_ti, .ref a_gd, .ref a_ak, .ref a_sp, .ref a_se, .ref a_sd, .ref a_rw, .ref a_sz, .ref a_op, .ref a_th, .ref a_me, .ref a_pk, .int (nI kc), .int cm, .int su, .ref a_re, .int (nI kq), .ref a_dr])), (a_dr, .inl (cI, 40, .inl dr)), (a_th, .inl (cZ, 2, .inl th)), (a_rw, .inl (cI, 256, .inl rw)), (a_sz, .inl (cI, 4, .inl (szf Ls)))]) (va_runS (As := [.int x3, .int 65535]) (rest := []) ⟨hx, hb, hml, hown, hts⟩ (c_Model_fits x3 65535 H.size) (xcwS 2 hts ww_731 ww_729 ww_730 ww_8 (by decide +kernel) rfl rfl ⟨Nat.le_of_ble_eq_true rfl, Nat.le_of_ble_eq_true rfl⟩) (xPreS (hP.sub [] rfl) (hD.sub [] (by decide) rfl) hK hN) rfl rfl hl.1 rfl (lv_room (Nat.le_of_ble_eq_true rfl)) d_Model_command_23 ⟨Nat.le_of_ble_eq_true rfl, Nat.le_of_ble_eq_true rfl⟩) hP hD hS hA [] [0, 1, 2, 3, 4] [0, 1, 2, 3, 4] rfl rfl (by decide) (by decide) (by decide) (fun _ => rfl) (fun r5 u5 H locs hw hP hD hS => ?_)
  obtain ⟨hw, hbr_5⟩ := hw
  subst hw
  replace hP : va_P D vwCl [(h0, .inr (7, [.int tg, .ref a_st, .ref a_ck, .ref a_en, .ref a_au, .ref a_he, .ref a_qu, .ref a_lo, .ref a_ow, .ref a_fl, .ref a_ti, .ref a_gd, .ref a_ak, .ref a_sp, .ref a_se, .ref a_sd, .ref a_rw, .ref a_sz, .ref a_op, .ref a_th, .ref a_me, .ref a_pk, .int (nI kc), .int cm, .int su, .ref a_re, .int (nI kq), .ref a_dr])), (a_dr, .inl (cI, 40, .inl dr)), (a_th, .inl (cZ, 2, .inl th)), (a_rw, .inl (cI, 256, .inl rw)), (a_sz, .inl (cI, 4, .inl (szf Ls)))] H := hP
  replace hD : va_D A [(h0, .inr (7, [.int tg, .ref a_st, .ref a_ck, .ref a_en, .ref a_au, .ref a_he, .ref a_qu, .ref a_lo, .ref a_ow, .ref a_fl, .ref a_ti, .ref a_gd, .ref a_ak, .ref a_sp, .ref a_se, .ref a_sd, .ref a_rw, .ref a_sz, .ref a_op, .ref a_th, .ref a_me, .ref a_pk, .int (nI kc), .int cm, .int su, .ref a_re, .int (nI kq), .ref a_dr])), (a_dr, .inl (cI, 40, .inl dr)), (a_th, .inl (cZ, 2, .inl th)), (a_rw, .inl (cI, 256, .inl rw)), (a_sz, .inl (cI, 4, .inl (szf Ls)))] := hD
  refine lv_if_eq (tgt := 71) hx hb d_Model_command_26 rfl (fun h6 => ?_) (fun h6 => ?_)
  · replace hq := hq.trans (if_pos h6)
    refine lv_iconst (v := (-1)) hx hb d_Model_command_71 rfl ?_
    exact hret (-1) (dr, th, Ls, rw) ⟨hq.symm, hM⟩ _ _ _ _ hP hD hS d_Model_command_72
  replace hq := hq.trans (if_neg h6)
  refine lv_iload hx hb d_Model_command_29 (lv_at hl 4 rfl) ?_
  refine lv_sipush (v := 255) hx hb d_Model_command_31 rfl ?_
  refine xcall_i (wc := []) (wr := [(h0, .inr (7, [.int tg, .ref a_st, .ref a_ck, .ref a_en, .ref a_au, .ref a_he, .ref a_qu, .ref a_lo, .ref a_ow, .ref a_fl, .ref a_ti, .ref a_gd, .ref a_ak, .ref a_sp, .ref a_se, .ref a_sd, .ref a_rw, .ref a_sz, .ref a_op, .ref a_th, .ref a_me, .ref a_pk, .int (nI kc), .int cm, .int su, .ref a_re, .int (nI kq), .ref a_dr])), (a_dr, .inl (cI, 40, .inl dr)), (a_th, .inl (cZ, 2, .inl th)), (a_rw, .inl (cI, 256, .inl rw)), (a_sz, .inl (cI, 4, .inl (szf Ls)))]) (ws1 := fun (u : Unit) => [(h0, .inr (7, [.int tg, .ref a_st, .ref a_ck, .ref a_en, .ref a_au, .ref a_he, .ref a_qu, .ref a_lo, .ref a_ow, .ref a_fl, .ref a_ti, .ref a_gd, .ref a_ak, .ref a_sp, .ref a_se, .ref a_sd, .ref a_rw, .ref a_sz, .ref a_op, .ref a_th, .ref a_me, .ref a_pk, .int (nI kc), .int cm, .int su, .ref a_re, .int (nI kq), .ref a_dr])), (a_dr, .inl (cI, 40, .inl dr)), (a_th, .inl (cZ, 2, .inl th)), (a_rw, .inl (cI, 256, .inl rw)), (a_sz, .inl (cI, 4, .inl (szf Ls)))]) (va_runS (As := [.int x4, .int 255]) (rest := []) ⟨hx, hb, hml, hown, hts⟩ (c_Model_fits x4 255 H.size) (xcwS 2 hts ww_731 ww_729 ww_730 ww_8 (by decide +kernel) rfl rfl ⟨Nat.le_of_ble_eq_true rfl, Nat.le_of_ble_eq_true rfl⟩) (xPreS (hP.sub [] rfl) (hD.sub [] (by decide) rfl) hK hN) rfl rfl hl.1 rfl (lv_room (Nat.le_of_ble_eq_true rfl)) d_Model_command_34 ⟨Nat.le_of_ble_eq_true rfl, Nat.le_of_ble_eq_true rfl⟩) hP hD hS hA [] [0, 1, 2, 3, 4] [0, 1, 2, 3, 4] rfl rfl (by decide) (by decide) (by decide) (fun _ => rfl) (fun r7 u7 H locs hw hP hD hS => ?_)
  obtain ⟨hw, hbr_7⟩ := hw
  subst hw
  replace hP : va_P D vwCl [(h0, .inr (7, [.int tg, .ref a_st, .ref a_ck, .ref a_en, .ref a_au, .ref a_he, .ref a_qu, .ref a_lo, .ref a_ow, .ref a_fl, .ref a_ti, .ref a_gd, .ref a_ak, .ref a_sp, .ref a_se, .ref a_sd, .ref a_rw, .ref a_sz, .ref a_op, .ref a_th, .ref a_me, .ref a_pk, .int (nI kc), .int cm, .int su, .ref a_re, .int (nI kq), .ref a_dr])), (a_dr, .inl (cI, 40, .inl dr)), (a_th, .inl (cZ, 2, .inl th)), (a_rw, .inl (cI, 256, .inl rw)), (a_sz, .inl (cI, 4, .inl (szf Ls)))] H := hP
  replace hD : va_D A [(h0, .inr (7, [.int tg, .ref a_st, .ref a_ck, .ref a_en, .ref a_au, .ref a_he, .ref a_qu, .ref a_lo, .ref a_ow, .ref a_fl, .ref a_ti, .ref a_gd, .ref a_ak, .ref a_sp, .ref a_se, .ref a_sd, .ref a_rw, .ref a_sz, .ref a_op, .ref a_th, .ref a_me, .ref a_pk, .int (nI kc), .int cm, .int su, .ref a_re, .int (nI kq), .ref a_dr])), (a_dr, .inl (cI, 40, .inl dr)), (a_th, .inl (cZ, 2, .inl th)), (a_rw, .inl (cI, 256, .inl rw)), (a_sz, .inl (cI, 4, .inl (szf Ls)))] := hD
  refine lv_if_eq (tgt := 71) hx hb d_Model_command_37 rfl (fun h8 => ?_) (fun h8 => ?_)
  · replace hq := hq.trans (if_pos h8)
    refine lv_iconst (v := (-1)) hx hb d_Model_command_71 rfl ?_
    exact hret (-1) (dr, th, Ls, rw) ⟨hq.symm, hM⟩ _ _ _ _ hP hD hS d_Model_command_72
  replace hq := hq.trans (if_neg h8)
  refine lv_iload hx hb d_Model_command_40 (lv_at hl 5 rfl) ?_
  refine lv_bipush (v := 24) hx hb d_Model_command_42 rfl ?_
  refine xcall_i (wc := []) (wr := [(h0, .inr (7, [.int tg, .ref a_st, .ref a_ck, .ref a_en, .ref a_au, .ref a_he, .ref a_qu, .ref a_lo, .ref a_ow, .ref a_fl, .ref a_ti, .ref a_gd, .ref a_ak, .ref a_sp, .ref a_se, .ref a_sd, .ref a_rw, .ref a_sz, .ref a_op, .ref a_th, .ref a_me, .ref a_pk, .int (nI kc), .int cm, .int su, .ref a_re, .int (nI kq), .ref a_dr])), (a_dr, .inl (cI, 40, .inl dr)), (a_th, .inl (cZ, 2, .inl th)), (a_rw, .inl (cI, 256, .inl rw)), (a_sz, .inl (cI, 4, .inl (szf Ls)))]) (ws1 := fun (u : Unit) => [(h0, .inr (7, [.int tg, .ref a_st, .ref a_ck, .ref a_en, .ref a_au, .ref a_he, .ref a_qu, .ref a_lo, .ref a_ow, .ref a_fl, .ref a_ti, .ref a_gd, .ref a_ak, .ref a_sp, .ref a_se, .ref a_sd, .ref a_rw, .ref a_sz, .ref a_op, .ref a_th, .ref a_me, .ref a_pk, .int (nI kc), .int cm, .int su, .ref a_re, .int (nI kq), .ref a_dr])), (a_dr, .inl (cI, 40, .inl dr)), (a_th, .inl (cZ, 2, .inl th)), (a_rw, .inl (cI, 256, .inl rw)), (a_sz, .inl (cI, 4, .inl (szf Ls)))]) (va_runS (As := [.int x5, .int 24]) (rest := []) ⟨hx, hb, hml, hown, hts⟩ (c_Model_fits x5 24 H.size) (xcwS 2 hts ww_731 ww_729 ww_730 ww_8 (by decide +kernel) rfl rfl ⟨Nat.le_of_ble_eq_true rfl, Nat.le_of_ble_eq_true rfl⟩) (xPreS (hP.sub [] rfl) (hD.sub [] (by decide) rfl) hK hN) rfl rfl hl.1 rfl (lv_room (Nat.le_of_ble_eq_true rfl)) d_Model_command_44 ⟨Nat.le_of_ble_eq_true rfl, Nat.le_of_ble_eq_true rfl⟩) hP hD hS hA [] [0, 1, 2, 3, 4] [0, 1, 2, 3, 4] rfl rfl (by decide) (by decide) (by decide) (fun _ => rfl) (fun r9 u9 H locs hw hP hD hS => ?_)
  obtain ⟨hw, hbr_9⟩ := hw
  subst hw
  replace hP : va_P D vwCl [(h0, .inr (7, [.int tg, .ref a_st, .ref a_ck, .ref a_en, .ref a_au, .ref a_he, .ref a_qu, .ref a_lo, .ref a_ow, .ref a_fl, .ref a_ti, .ref a_gd, .ref a_ak, .ref a_sp, .ref a_se, .ref a_sd, .ref a_rw, .ref a_sz, .ref a_op, .ref a_th, .ref a_me, .ref a_pk, .int (nI kc), .int cm, .int su, .ref a_re, .int (nI kq), .ref a_dr])), (a_dr, .inl (cI, 40, .inl dr)), (a_th, .inl (cZ, 2, .inl th)), (a_rw, .inl (cI, 256, .inl rw)), (a_sz, .inl (cI, 4, .inl (szf Ls)))] H := hP
  replace hD : va_D A [(h0, .inr (7, [.int tg, .ref a_st, .ref a_ck, .ref a_en, .ref a_au, .ref a_he, .ref a_qu, .ref a_lo, .ref a_ow, .ref a_fl, .ref a_ti, .ref a_gd, .ref a_ak, .ref a_sp, .ref a_se, .ref a_sd, .ref a_rw, .ref a_sz, .ref a_op, .ref a_th, .ref a_me, .ref a_pk, .int (nI kc), .int cm, .int su, .ref a_re, .int (nI kq), .ref a_dr])), (a_dr, .inl (cI, 40, .inl dr)), (a_th, .inl (cZ, 2, .inl th)), (a_rw, .inl (cI, 256, .inl rw)), (a_sz, .inl (cI, 4, .inl (szf Ls)))] := hD
  refine lv_if_eq (tgt := 71) hx hb d_Model_command_47 rfl (fun h10 => ?_) (fun h10 => ?_)
  · replace hq := hq.trans (if_pos h10)
    refine lv_iconst (v := (-1)) hx hb d_Model_command_71 rfl ?_
    exact hret (-1) (dr, th, Ls, rw) ⟨hq.symm, hM⟩ _ _ _ _ hP hD hS d_Model_command_72
  replace hq := hq.trans (if_neg h10)
  refine lv_iload hx hb d_Model_command_50 (lv_at hl 6 rfl) ?_
  refine lv_sipush (v := 255) hx hb d_Model_command_52 rfl ?_
  refine xcall_i (wc := []) (wr := [(h0, .inr (7, [.int tg, .ref a_st, .ref a_ck, .ref a_en, .ref a_au, .ref a_he, .ref a_qu, .ref a_lo, .ref a_ow, .ref a_fl, .ref a_ti, .ref a_gd, .ref a_ak, .ref a_sp, .ref a_se, .ref a_sd, .ref a_rw, .ref a_sz, .ref a_op, .ref a_th, .ref a_me, .ref a_pk, .int (nI kc), .int cm, .int su, .ref a_re, .int (nI kq), .ref a_dr])), (a_dr, .inl (cI, 40, .inl dr)), (a_th, .inl (cZ, 2, .inl th)), (a_rw, .inl (cI, 256, .inl rw)), (a_sz, .inl (cI, 4, .inl (szf Ls)))]) (ws1 := fun (u : Unit) => [(h0, .inr (7, [.int tg, .ref a_st, .ref a_ck, .ref a_en, .ref a_au, .ref a_he, .ref a_qu, .ref a_lo, .ref a_ow, .ref a_fl, .ref a_ti, .ref a_gd, .ref a_ak, .ref a_sp, .ref a_se, .ref a_sd, .ref a_rw, .ref a_sz, .ref a_op, .ref a_th, .ref a_me, .ref a_pk, .int (nI kc), .int cm, .int su, .ref a_re, .int (nI kq), .ref a_dr])), (a_dr, .inl (cI, 40, .inl dr)), (a_th, .inl (cZ, 2, .inl th)), (a_rw, .inl (cI, 256, .inl rw)), (a_sz, .inl (cI, 4, .inl (szf Ls)))]) (va_runS (As := [.int x6, .int 255]) (rest := []) ⟨hx, hb, hml, hown, hts⟩ (c_Model_fits x6 255 H.size) (xcwS 2 hts ww_731 ww_729 ww_730 ww_8 (by decide +kernel) rfl rfl ⟨Nat.le_of_ble_eq_true rfl, Nat.le_of_ble_eq_true rfl⟩) (xPreS (hP.sub [] rfl) (hD.sub [] (by decide) rfl) hK hN) rfl rfl hl.1 rfl (lv_room (Nat.le_of_ble_eq_true rfl)) d_Model_command_55 ⟨Nat.le_of_ble_eq_true rfl, Nat.le_of_ble_eq_true rfl⟩) hP hD hS hA [] [0, 1, 2, 3, 4] [0, 1, 2, 3, 4] rfl rfl (by decide) (by decide) (by decide) (fun _ => rfl) (fun r11 u11 H locs hw hP hD hS => ?_)
  obtain ⟨hw, hbr_11⟩ := hw
  subst hw
  replace hP : va_P D vwCl [(h0, .inr (7, [.int tg, .ref a_st, .ref a_ck, .ref a_en, .ref a_au, .ref a_he, .ref a_qu, .ref a_lo, .ref a_ow, .ref a_fl, .ref a_ti, .ref a_gd, .ref a_ak, .ref a_sp, .ref a_se, .ref a_sd, .ref a_rw, .ref a_sz, .ref a_op, .ref a_th, .ref a_me, .ref a_pk, .int (nI kc), .int cm, .int su, .ref a_re, .int (nI kq), .ref a_dr])), (a_dr, .inl (cI, 40, .inl dr)), (a_th, .inl (cZ, 2, .inl th)), (a_rw, .inl (cI, 256, .inl rw)), (a_sz, .inl (cI, 4, .inl (szf Ls)))] H := hP
  replace hD : va_D A [(h0, .inr (7, [.int tg, .ref a_st, .ref a_ck, .ref a_en, .ref a_au, .ref a_he, .ref a_qu, .ref a_lo, .ref a_ow, .ref a_fl, .ref a_ti, .ref a_gd, .ref a_ak, .ref a_sp, .ref a_se, .ref a_sd, .ref a_rw, .ref a_sz, .ref a_op, .ref a_th, .ref a_me, .ref a_pk, .int (nI kc), .int cm, .int su, .ref a_re, .int (nI kq), .ref a_dr])), (a_dr, .inl (cI, 40, .inl dr)), (a_th, .inl (cZ, 2, .inl th)), (a_rw, .inl (cI, 256, .inl rw)), (a_sz, .inl (cI, 4, .inl (szf Ls)))] := hD
  refine lv_if_eq (tgt := 71) hx hb d_Model_command_58 rfl (fun h12 => ?_) (fun h12 => ?_)
  · replace hq := hq.trans (if_pos h12)
    refine lv_iconst (v := (-1)) hx hb d_Model_command_71 rfl ?_
    exact hret (-1) (dr, th, Ls, rw) ⟨hq.symm, hM⟩ _ _ _ _ hP hD hS d_Model_command_72
  replace hq := hq.trans (if_neg h12)
  refine lv_iload hx hb d_Model_command_61 (lv_at hl 7 rfl) ?_
  refine lv_bipush (v := 31) hx hb d_Model_command_63 rfl ?_
  refine xcall_i (wc := []) (wr := [(h0, .inr (7, [.int tg, .ref a_st, .ref a_ck, .ref a_en, .ref a_au, .ref a_he, .ref a_qu, .ref a_lo, .ref a_ow, .ref a_fl, .ref a_ti, .ref a_gd, .ref a_ak, .ref a_sp, .ref a_se, .ref a_sd, .ref a_rw, .ref a_sz, .ref a_op, .ref a_th, .ref a_me, .ref a_pk, .int (nI kc), .int cm, .int su, .ref a_re, .int (nI kq), .ref a_dr])), (a_dr, .inl (cI, 40, .inl dr)), (a_th, .inl (cZ, 2, .inl th)), (a_rw, .inl (cI, 256, .inl rw)), (a_sz, .inl (cI, 4, .inl (szf Ls)))]) (ws1 := fun (u : Unit) => [(h0, .inr (7, [.int tg, .ref a_st, .ref a_ck, .ref a_en, .ref a_au, .ref a_he, .ref a_qu, .ref a_lo, .ref a_ow, .ref a_fl, .ref a_ti, .ref a_gd, .ref a_ak, .ref a_sp, .ref a_se, .ref a_sd, .ref a_rw, .ref a_sz, .ref a_op, .ref a_th, .ref a_me, .ref a_pk, .int (nI kc), .int cm, .int su, .ref a_re, .int (nI kq), .ref a_dr])), (a_dr, .inl (cI, 40, .inl dr)), (a_th, .inl (cZ, 2, .inl th)), (a_rw, .inl (cI, 256, .inl rw)), (a_sz, .inl (cI, 4, .inl (szf Ls)))]) (va_runS (As := [.int x7, .int 31]) (rest := []) ⟨hx, hb, hml, hown, hts⟩ (c_Model_fits x7 31 H.size) (xcwS 2 hts ww_731 ww_729 ww_730 ww_8 (by decide +kernel) rfl rfl ⟨Nat.le_of_ble_eq_true rfl, Nat.le_of_ble_eq_true rfl⟩) (xPreS (hP.sub [] rfl) (hD.sub [] (by decide) rfl) hK hN) rfl rfl hl.1 rfl (lv_room (Nat.le_of_ble_eq_true rfl)) d_Model_command_65 ⟨Nat.le_of_ble_eq_true rfl, Nat.le_of_ble_eq_true rfl⟩) hP hD hS hA [] [0, 1, 2, 3, 4] [0, 1, 2, 3, 4] rfl rfl (by decide) (by decide) (by decide) (fun _ => rfl) (fun r13 u13 H locs hw hP hD hS => ?_)
  obtain ⟨hw, hbr_13⟩ := hw
  subst hw
  replace hP : va_P D vwCl [(h0, .inr (7, [.int tg, .ref a_st, .ref a_ck, .ref a_en, .ref a_au, .ref a_he, .ref a_qu, .ref a_lo, .ref a_ow, .ref a_fl, .ref a_ti, .ref a_gd, .ref a_ak, .ref a_sp, .ref a_se, .ref a_sd, .ref a_rw, .ref a_sz, .ref a_op, .ref a_th, .ref a_me, .ref a_pk, .int (nI kc), .int cm, .int su, .ref a_re, .int (nI kq), .ref a_dr])), (a_dr, .inl (cI, 40, .inl dr)), (a_th, .inl (cZ, 2, .inl th)), (a_rw, .inl (cI, 256, .inl rw)), (a_sz, .inl (cI, 4, .inl (szf Ls)))] H := hP
  replace hD : va_D A [(h0, .inr (7, [.int tg, .ref a_st, .ref a_ck, .ref a_en, .ref a_au, .ref a_he, .ref a_qu, .ref a_lo, .ref a_ow, .ref a_fl, .ref a_ti, .ref a_gd, .ref a_ak, .ref a_sp, .ref a_se, .ref a_sd, .ref a_rw, .ref a_sz, .ref a_op, .ref a_th, .ref a_me, .ref a_pk, .int (nI kc), .int cm, .int su, .ref a_re, .int (nI kq), .ref a_dr])), (a_dr, .inl (cI, 40, .inl dr)), (a_th, .inl (cZ, 2, .inl th)), (a_rw, .inl (cI, 256, .inl rw)), (a_sz, .inl (cI, 4, .inl (szf Ls)))] := hD
  refine lv_if_ne (tgt := 73) hx hb d_Model_command_68 rfl (fun h14 => ?_) (fun h14 => ?_)
  · replace hq := hq.trans (if_neg h14)
    obtain ⟨ln, hln⟩ : ∃ z, z = x5.toNatClampNeg := ⟨_, rfl⟩
    have hxln : x5 = nI ln := by rw [hln]; exact xnat (fits_in (n := 24) (by decide) h10).1
    replace hq := hq.trans (bnd_eq hln)
    try dsimp only at hq
    rw [hxln] at hl
    have hln24 : ln ≤ 24 := by rw [hln]; exact xnat_le (fits_in (n := 24) (by decide) h10).1 (fits_in (n := 24) (by decide) h10).2 (by decide)
    replace hl : lv_has ls 12 [(0, .ref h0), (1, .int x1), (2, .int x2), (3, .int x3), (4, .int x4), (5, .int (nI ln)), (6, .int x6), (7, .int x7)] := hl
    refine lv_iload_n hx hb d_Model_command_73 rfl (lv_at hl 1 rfl) ?_
    refine lv_bipush (v := 48) hx hb d_Model_command_74 rfl ?_
    refine lv_iand hx hb d_Model_command_76 ?_
    have J15 : ∀ (y16 : Int32) (H : Heap) (locs : List Loc), y16 = (if (x1 &&& 48) = 0 then (0) else (1)) → xB y16 → va_P D vwCl [(h0, .inr (7, [.int tg, .ref a_st, .ref a_ck, .ref a_en, .ref a_au, .ref a_he, .ref a_qu, .ref a_lo, .ref a_ow, .ref a_fl, .ref a_ti, .ref a_gd, .ref a_ak, .ref a_sp, .ref a_se, .ref a_sd, .ref a_rw, .ref a_sz, .ref a_op, .ref a_th, .ref a_me, .ref a_pk, .int (nI kc), .int cm, .int su, .ref a_re, .int (nI kq), .ref a_dr])), (a_dr, .inl (cI, 40, .inl dr)), (a_th, .inl (cZ, 2, .inl th)), (a_rw, .inl (cI, 256, .inl rw)), (a_sz, .inl (cI, 4, .inl (szf Ls)))] H → va_D A [(h0, .inr (7, [.int tg, .ref a_st, .ref a_ck, .ref a_en, .ref a_au, .ref a_he, .ref a_qu, .ref a_lo, .ref a_ow, .ref a_fl, .ref a_ti, .ref a_gd, .ref a_ak, .ref a_sp, .ref a_se, .ref a_sd, .ref a_rw, .ref a_sz, .ref a_op, .ref a_th, .ref a_me, .ref a_pk, .int (nI kc), .int cm, .int su, .ref a_re, .int (nI kq), .ref a_dr])), (a_dr, .inl (cI, 40, .inl dr)), (a_th, .inl (cZ, 2, .inl th)), (a_rw, .inl (cI, 256, .inl rw)), (a_sz, .inl (cI, 4, .inl (szf Ls)))] → va_S A s.heap H locs → W p l e rm_Model_command s m args below meth c H locs 0 0 Q (F0 m 85 ls [.int y16]) := by
      intro y16 H locs hy16 hby16 hP hD hS
      replace hq := hq.trans (bnd_eq hy16)
      try dsimp only at hq
      refine lv_istore hx hb d_Model_command_85 hl (by decide) rfl (fun ls hl => ?_)
      replace hl : lv_has ls 12 [(8, .int y16), (0, .ref h0), (1, .int x1), (2, .int x2), (3, .int x3), (4, .int x4), (5, .int (nI ln)), (6, .int x6), (7, .int x7)] := hl
      refine lv_bipush (v := 10) hx hb d_Model_command_87 rfl ?_
      refine lv_iload hx hb d_Model_command_89 (lv_at hl 0 rfl) ?_
      have J17 : ∀ (y18 : Int32) (H : Heap) (locs : List Loc), y18 = (if y16 = 0 then (0) else (nI (ln + 1))) → va_P D vwCl [(h0, .inr (7, [.int tg, .ref a_st, .ref a_ck, .ref a_en, .ref a_au, .ref a_he, .ref a_qu, .ref a_lo, .ref a_ow, .ref a_fl, .ref a_ti, .ref a_gd, .ref a_ak, .ref a_sp, .ref a_se, .ref a_sd, .ref a_rw, .ref a_sz, .ref a_op, .ref a_th, .ref a_me, .ref a_pk, .int (nI kc), .int cm, .int su, .ref a_re, .int (nI kq), .ref a_dr])), (a_dr, .inl (cI, 40, .inl dr)), (a_th, .inl (cZ, 2, .inl th)), (a_rw, .inl (cI, 256, .inl rw)), (a_sz, .inl (cI, 4, .inl (szf Ls)))] H → va_D A [(h0, .inr (7, [.int tg, .ref a_st, .ref a_ck, .ref a_en, .ref a_au, .ref a_he, .ref a_qu, .ref a_lo, .ref a_ow, .ref a_fl, .ref a_ti, .ref a_gd, .ref a_ak, .ref a_sp, .ref a_se, .ref a_sd, .ref a_rw, .ref a_sz, .ref a_op, .ref a_th, .ref a_me, .ref a_pk, .int (nI kc), .int cm, .int su, .ref a_re, .int (nI kq), .ref a_dr])), (a_dr, .inl (cI, 40, .inl dr)), (a_th, .inl (cZ, 2, .inl th)), (a_rw, .inl (cI, 256, .inl rw)), (a_sz, .inl (cI, 4, .inl (szf Ls)))] → va_S A s.heap H locs → W p l e rm_Model_command s m args below meth c H locs 0 0 Q (F0 m 102 ls [.int y18, .int 10]) := by
        intro y18 H locs hy18 hP hD hS
        replace hq := hq.trans (bnd_eq hy18)
        try dsimp only at hq
        refine xtopn (di_nn (d := 0) (a := 0) (b := (ln + 1)) (by omega) (by omega) (by rw [hy18]; exact xite (P := fun z => z = nI 0 ∨ z = nI (ln + 1)) (Or.inl rfl) (Or.inr rfl))) (fun n1 hn1 => ?_)
        replace hq := hq.trans (bnd_eq hn1)
        try dsimp only at hq
        have hbn1 : n1 = 0 ∨ n1 = (ln + 1) := by rw [hn1]; exact di_cl (by omega) (by omega) (by rw [hy18]; exact xite (P := fun z => z = nI 0 ∨ z = nI (ln + 1)) (Or.inl rfl) (Or.inr rfl))
        refine lv_iadd hx hb d_Model_command_102 ?_
        refine xtop (y := nI (10 + n1)) (nI_add 10 n1) ?_
        refine lv_istore hx hb d_Model_command_103 hl (by decide) rfl (fun ls hl => ?_)
        replace hl : lv_has ls 12 [(9, .int (nI (10 + n1))), (8, .int y16), (0, .ref h0), (1, .int x1), (2, .int x2), (3, .int x3), (4, .int x4), (5, .int (nI ln)), (6, .int x6), (7, .int x7)] := hl
        refine lv_iload hx hb d_Model_command_105 (lv_at hl 1 rfl) ?_
        have J19 : ∀ (y20 : Int32) (H : Heap) (locs : List Loc), y20 = (if y16 = 0 then (nI (10 + n1)) else (if ((x7 / 4) - (x7 / 4) / 2 * 2) = 1 then ((nI (10 + n1)) - 1) else (nI (10 + n1)))) → va_P D vwCl [(h0, .inr (7, [.int tg, .ref a_st, .ref a_ck, .ref a_en, .ref a_au, .ref a_he, .ref a_qu, .ref a_lo, .ref a_ow, .ref a_fl, .ref a_ti, .ref a_gd, .ref a_ak, .ref a_sp, .ref a_se, .ref a_sd, .ref a_rw, .ref a_sz, .ref a_op, .ref a_th, .ref a_me, .ref a_pk, .int (nI kc), .int cm, .int su, .ref a_re, .int (nI kq), .ref a_dr])), (a_dr, .inl (cI, 40, .inl dr)), (a_th, .inl (cZ, 2, .inl th)), (a_rw, .inl (cI, 256, .inl rw)), (a_sz, .inl (cI, 4, .inl (szf Ls)))] H → va_D A [(h0, .inr (7, [.int tg, .ref a_st, .ref a_ck, .ref a_en, .ref a_au, .ref a_he, .ref a_qu, .ref a_lo, .ref a_ow, .ref a_fl, .ref a_ti, .ref a_gd, .ref a_ak, .ref a_sp, .ref a_se, .ref a_sd, .ref a_rw, .ref a_sz, .ref a_op, .ref a_th, .ref a_me, .ref a_pk, .int (nI kc), .int cm, .int su, .ref a_re, .int (nI kq), .ref a_dr])), (a_dr, .inl (cI, 40, .inl dr)), (a_th, .inl (cZ, 2, .inl th)), (a_rw, .inl (cI, 256, .inl rw)), (a_sz, .inl (cI, 4, .inl (szf Ls)))] → va_S A s.heap H locs → W p l e rm_Model_command s m args below meth c H locs 0 0 Q (F0 m 129 ls [.int y20]) := by
          intro y20 H locs hy20 hP hD hS
          replace hq := hq.trans (bnd_eq hy20)
          try dsimp only at hq
          refine xtopn (di_nn (d := 0) (a := (10 + n1 - 1)) (b := (10 + n1)) (by omega) (by omega) (by rw [hy20]; exact xite (P := fun z => z = nI (10 + n1 - 1) ∨ z = nI (10 + n1)) (Or.inr rfl) (xite (P := fun z => z = nI (10 + n1 - 1) ∨ z = nI (10 + n1)) (Or.inl (pk_sub (b := 1) (by omega))) (Or.inr rfl)))) (fun n2 hn2 => ?_)
          replace hq := hq.trans (bnd_eq hn2)
          try dsimp only at hq
          have hbn2 : n2 = (10 + n1 - 1) ∨ n2 = (10 + n1) := by rw [hn2]; exact di_cl (by omega) (by omega) (by rw [hy20]; exact xite (P := fun z => z = nI (10 + n1 - 1) ∨ z = nI (10 + n1)) (Or.inr rfl) (xite (P := fun z => z = nI (10 + n1 - 1) ∨ z = nI (10 + n1)) (Or.inl (pk_sub (b := 1) (by omega))) (Or.inr rfl)))
          refine lv_istore hx hb d_Model_command_129 hl (by decide) rfl (fun ls hl => ?_)
          replace hl : lv_has ls 12 [(9, .int (nI n2)), (8, .int y16), (0, .ref h0), (1, .int x1), (2, .int x2), (3, .int x3), (4, .int x4), (5, .int (nI ln)), (6, .int x6), (7, .int x7)] := hl
          refine lv_iload hx hb d_Model_command_131 (lv_at hl 1 rfl) ?_
          have J21 : ∀ (y22 : Int32) (H : Heap) (locs : List Loc), y22 = (if y16 = 0 then (nI n2) else (if ((x7 / 8) - (x7 / 8) / 2 * 2) = 1 then (nI (n2 + 1)) else (nI n2))) → va_P D vwCl [(h0, .inr (7, [.int tg, .ref a_st, .ref a_ck, .ref a_en, .ref a_au, .ref a_he, .ref a_qu, .ref a_lo, .ref a_ow, .ref a_fl, .ref a_ti, .ref a_gd, .ref a_ak, .ref a_sp, .ref a_se, .ref a_sd, .ref a_rw, .ref a_sz, .ref a_op, .ref a_th, .ref a_me, .ref a_pk, .int (nI kc), .int cm, .int su, .ref a_re, .int (nI kq), .ref a_dr])), (a_dr, .inl (cI, 40, .inl dr)), (a_th, .inl (cZ, 2, .inl th)), (a_rw, .inl (cI, 256, .inl rw)), (a_sz, .inl (cI, 4, .inl (szf Ls)))] H → va_D A [(h0, .inr (7, [.int tg, .ref a_st, .ref a_ck, .ref a_en, .ref a_au, .ref a_he, .ref a_qu, .ref a_lo, .ref a_ow, .ref a_fl, .ref a_ti, .ref a_gd, .ref a_ak, .ref a_sp, .ref a_se, .ref a_sd, .ref a_rw, .ref a_sz, .ref a_op, .ref a_th, .ref a_me, .ref a_pk, .int (nI kc), .int cm, .int su, .ref a_re, .int (nI kq), .ref a_dr])), (a_dr, .inl (cI, 40, .inl dr)), (a_th, .inl (cZ, 2, .inl th)), (a_rw, .inl (cI, 256, .inl rw)), (a_sz, .inl (cI, 4, .inl (szf Ls)))] → va_S A s.heap H locs → W p l e rm_Model_command s m args below meth c H locs 0 0 Q (F0 m 156 ls [.int y22]) := by
            intro y22 H locs hy22 hP hD hS
            replace hq := hq.trans (bnd_eq hy22)
            try dsimp only at hq
            refine xtopn (di_nn (d := 0) (a := (n2 + 1)) (b := n2) (by omega) (by omega) (by rw [hy22]; exact xite (P := fun z => z = nI (n2 + 1) ∨ z = nI n2) (Or.inr rfl) (xite (P := fun z => z = nI (n2 + 1) ∨ z = nI n2) (Or.inl rfl) (Or.inr rfl)))) (fun n3 hn3 => ?_)
            replace hq := hq.trans (bnd_eq hn3)
            try dsimp only at hq
            have hbn3 : n3 = (n2 + 1) ∨ n3 = n2 := by rw [hn3]; exact di_cl (by omega) (by omega) (by rw [hy22]; exact xite (P := fun z => z = nI (n2 + 1) ∨ z = nI n2) (Or.inr rfl) (xite (P := fun z => z = nI (n2 + 1) ∨ z = nI n2) (Or.inl rfl) (Or.inr rfl)))
            refine lv_istore hx hb d_Model_command_156 hl (by decide) rfl (fun ls hl => ?_)
            replace hl : lv_has ls 12 [(9, .int (nI n3)), (8, .int y16), (0, .ref h0), (1, .int x1), (2, .int x2), (3, .int x3), (4, .int x4), (5, .int (nI ln)), (6, .int x6), (7, .int x7)] := hl
            refine lv_iload hx hb d_Model_command_158 (lv_at hl 0 rfl) ?_
            refine lv_bipush (v := 64) hx hb d_Model_command_160 rfl ?_
            refine lv_aload_n hx hb d_Model_command_162 rfl (lv_at hl 2 rfl) ?_
            refine va_get (D := D) (ci := 7) (v := .ref a_sz) (C := R_Model) (T := F_Model) (N := 28) hx hb hts hin_Model hown hK hP 0 rfl rfl 17 (by decide) (hts _ (xm ww_550)) (fun _ h9 => h9) rfl d_Model_command_163 ?_
            refine lv_iconst (v := 0) hx hb d_Model_command_166 rfl ?_
            refine xiald (k := 0) hx hb hK hP 4 0 rfl rfl rfl (by decide) (by decide) d_Model_command_167 ?_
            refine xtop (y := nI ((Ls 0).length)) rfl ?_
            refine lv_isub hx hb d_Model_command_168 ?_
            refine lv_icmp_gt (tgt := 181) hx hb d_Model_command_169 rfl (fun h23 => ?_) (fun h23 => ?_)
            · replace hq := hq.trans (if_pos h23)
              refine lv_bipush (v := (-2)) hx hb d_Model_command_181 rfl ?_
              exact hret (-2) (dr, th, Ls, rw) ⟨hq.symm, hM⟩ _ _ _ _ hP hD hS d_Model_command_183
            replace hq := hq.trans (if_neg h23)
            refine lv_aload_n hx hb d_Model_command_172 rfl (lv_at hl 2 rfl) ?_
            refine va_get (D := D) (ci := 7) (v := .ref a_th) (C := R_Model) (T := F_Model) (N := 28) hx hb hts hin_Model hown hK hP 0 rfl rfl 19 (by decide) (hts _ (xm ww_552)) (fun _ h9 => h9) rfl d_Model_command_173 ?_
            refine lv_iconst (v := 0) hx hb d_Model_command_176 rfl ?_
            refine xzald (k := 0) hx hb hK hP 2 1 rfl rfl rfl (by decide) (by decide) d_Model_command_177 ?_
            refine lv_if_eq (tgt := 184) hx hb d_Model_command_178 rfl (fun h24 => ?_) (fun h24 => ?_)
            · replace hq := hq.trans (if_pos h24)
              have hfit : n3 + (Ls 0).length ≤ 64 := fit64 (by omega) (hM 0 (by decide)).1 h23
              refine lv_aload_n hx hb d_Model_command_184 rfl (lv_at hl 2 rfl) ?_
              have Cs_Model_command_365 : ∀ (xc : Int32) (dr3 : Nat → Int32) (ls : Array Slot) (H : Heap) (locs : List Loc), lv_has ls 12 [(9, .int (nI n3)), (8, .int y16), (0, .ref h0), (1, .int x1), (2, .int x2), (3, .int x3), (4, .int x4), (5, .int (nI ln)), (6, .int x6), (7, .int x7), (10, .int xc)] → va_P D vwCl [(h0, .inr (7, [.int tg, .ref a_st, .ref a_ck, .ref a_en, .ref a_au, .ref a_he, .ref a_qu, .ref a_lo, .ref a_ow, .ref a_fl, .ref a_ti, .ref a_gd, .ref a_ak, .ref a_sp, .ref a_se, .ref a_sd, .ref a_rw, .ref a_sz, .ref a_op, .ref a_th, .ref a_me, .ref a_pk, .int (nI kc), .int cm, .int su, .ref a_re, .int (nI kq), .ref a_dr])), (a_dr, .inl (cI, 40, .inl dr3)), (a_th, .inl (cZ, 2, .inl th)), (a_rw, .inl (cI, 256, .inl rw)), (a_sz, .inl (cI, 4, .inl (szf Ls)))] H → va_D A [(h0, .inr (7, [.int tg, .ref a_st, .ref a_ck, .ref a_en, .ref a_au, .ref a_he, .ref a_qu, .ref a_lo, .ref a_ow, .ref a_fl, .ref a_ti, .ref a_gd, .ref a_ak, .ref a_sp, .ref a_se, .ref a_sd, .ref a_rw, .ref a_sz, .ref a_op, .ref a_th, .ref a_me, .ref a_pk, .int (nI kc), .int cm, .int su, .ref a_re, .int (nI kq), .ref a_dr])), (a_dr, .inl (cI, 40, .inl dr3)), (a_th, .inl (cZ, 2, .inl th)), (a_rw, .inl (cI, 256, .inl rw)), (a_sz, .inl (cI, 4, .inl (szf Ls)))] → va_S A s.heap H locs → s_Model_command dr th Ls x1 x2 x3 x4 x5 x6 x7 = s_Model_command_365 th Ls x7 ln y16 n3 xc dr3 → W p l e rm_Model_command s m args below meth c H locs 0 0 Q (F0 m 365 ls []) := by
                intro xc dr3 ls H locs hl hP hD hS hq
                replace hq : s_Model_command dr th Ls x1 x2 x3 x4 x5 x6 x7 = (bnd (α := Int32) (if ((x7 / 2) - (x7 / 2) / 2 * 2) = 1 then (xc ^^^ 1) else (xc)) (fun y26 => bnd (α := Int32) (if y16 = 0 then ((upd dr3 (9 + ln) y26) (n3 - 2)) else (if ((x7 / 8) - (x7 / 8) / 2 * 2) = 1 then (0) else ((upd dr3 (9 + ln) y26) (n3 - 2)))) (fun y28 => bnd (α := Int32) (if (x7 / 16) = 1 then (257) else (256)) (fun y30 => bnd (upd (upd (upd dr3 (9 + ln) y26) (n3 - 2) y28) (n3 - 1) y30) (fun dr4 => lp_mapp n3 dr4 (n3 - 0) 0 th Ls))))) := hq
                refine lv_aload_n hx hb d_Model_command_365 rfl (lv_at hl 2 rfl) ?_
                refine va_get (D := D) (ci := 7) (v := .ref a_dr) (C := R_Model) (T := F_Model) (N := 28) hx hb hts hin_Model hown hK hP 0 rfl rfl 27 (by decide) (hts _ (xm ww_560)) (fun _ h9 => h9) rfl d_Model_command_366 ?_
                refine lv_bipush (v := 9) hx hb d_Model_command_369 rfl ?_
                refine lv_iload hx hb d_Model_command_371 (lv_at hl 7 rfl) ?_
                refine lv_iadd hx hb d_Model_command_373 ?_
                refine xtop (y := nI (9 + ln)) (nI_add 9 ln) ?_
                refine lv_iload hx hb d_Model_command_374 (lv_at hl 9 rfl) ?_
                refine lv_iconst (v := 2) hx hb d_Model_command_376 rfl ?_
                refine lv_idiv hx hb d_Model_command_377 (by decide) ?_
                refine lv_iconst (v := 2) hx hb d_Model_command_378 rfl ?_
                refine lv_irem hx hb d_Model_command_379 (by decide) ?_
                refine lv_iconst (v := 1) hx hb d_Model_command_380 rfl ?_
                have J25 : ∀ (y26 : Int32) (H : Heap) (locs : List Loc), y26 = (if ((x7 / 2) - (x7 / 2) / 2 * 2) = 1 then (xc ^^^ 1) else (xc)) → va_P D vwCl [(h0, .inr (7, [.int tg, .ref a_st, .ref a_ck, .ref a_en, .ref a_au, .ref a_he, .ref a_qu, .ref a_lo, .ref a_ow, .ref a_fl, .ref a_ti, .ref a_gd, .ref a_ak, .ref a_sp, .ref a_se, .ref a_sd, .ref a_rw, .ref a_sz, .ref a_op, .ref a_th, .ref a_me, .ref a_pk, .int (nI kc), .int cm, .int su, .ref a_re, .int (nI kq), .ref a_dr])), (a_dr, .inl (cI, 40, .inl dr3)), (a_th, .inl (cZ, 2, .inl th)), (a_rw, .inl (cI, 256, .inl rw)), (a_sz, .inl (cI, 4, .inl (szf Ls)))] H → va_D A [(h0, .inr (7, [.int tg, .ref a_st, .ref a_ck, .ref a_en, .ref a_au, .ref a_he, .ref a_qu, .ref a_lo, .ref a_ow, .ref a_fl, .ref a_ti, .ref a_gd, .ref a_ak, .ref a_sp, .ref a_se, .ref a_sd, .ref a_rw, .ref a_sz, .ref a_op, .ref a_th, .ref a_me, .ref a_pk, .int (nI kc), .int cm, .int su, .ref a_re, .int (nI kq), .ref a_dr])), (a_dr, .inl (cI, 40, .inl dr3)), (a_th, .inl (cZ, 2, .inl th)), (a_rw, .inl (cI, 256, .inl rw)), (a_sz, .inl (cI, 4, .inl (szf Ls)))] → va_S A s.heap H locs → W p l e rm_Model_command s m args below meth c H locs 0 0 Q (F0 m 393 ls [.int y26, .int (nI (9 + ln)), .ref a_dr]) := by
                  intro y26 H locs hy26 hP hD hS
                  replace hq := hq.trans (bnd_eq hy26)
                  try dsimp only at hq
                  refine xiast (k := (9 + ln)) hx hb hK hP hD hS 1 0 rfl rfl rfl (by omega) (by decide) d_Model_command_393 (fun H locs hP hD hS => ?_)
                  replace hP : va_P D vwCl [(h0, .inr (7, [.int tg, .ref a_st, .ref a_ck, .ref a_en, .ref a_au, .ref a_he, .ref a_qu, .ref a_lo, .ref a_ow, .ref a_fl, .ref a_ti, .ref a_gd, .ref a_ak, .ref a_sp, .ref a_se, .ref a_sd, .ref a_rw, .ref a_sz, .ref a_op, .ref a_th, .ref a_me, .ref a_pk, .int (nI kc), .int cm, .int su, .ref a_re, .int (nI kq), .ref a_dr])), (a_dr, .inl (cI, 40, .inl (upd dr3 (9 + ln) y26))), (a_th, .inl (cZ, 2, .inl th)), (a_rw, .inl (cI, 256, .inl rw)), (a_sz, .inl (cI, 4, .inl (szf Ls)))] H := hP
                  replace hD : va_D A [(h0, .inr (7, [.int tg, .ref a_st, .ref a_ck, .ref a_en, .ref a_au, .ref a_he, .ref a_qu, .ref a_lo, .ref a_ow, .ref a_fl, .ref a_ti, .ref a_gd, .ref a_ak, .ref a_sp, .ref a_se, .ref a_sd, .ref a_rw, .ref a_sz, .ref a_op, .ref a_th, .ref a_me, .ref a_pk, .int (nI kc), .int cm, .int su, .ref a_re, .int (nI kq), .ref a_dr])), (a_dr, .inl (cI, 40, .inl (upd dr3 (9 + ln) y26))), (a_th, .inl (cZ, 2, .inl th)), (a_rw, .inl (cI, 256, .inl rw)), (a_sz, .inl (cI, 4, .inl (szf Ls)))] := hD
                  refine lv_aload_n hx hb d_Model_command_394 rfl (lv_at hl 2 rfl) ?_
                  refine va_get (D := D) (ci := 7) (v := .ref a_dr) (C := R_Model) (T := F_Model) (N := 28) hx hb hts hin_Model hown hK hP 0 rfl rfl 27 (by decide) (hts _ (xm ww_560)) (fun _ h9 => h9) rfl d_Model_command_395 ?_
                  refine lv_iload hx hb d_Model_command_398 (lv_at hl 0 rfl) ?_
                  refine lv_iconst (v := 2) hx hb d_Model_command_400 rfl ?_
                  refine lv_isub hx hb d_Model_command_401 ?_
                  refine xtop (y := nI (n3 - 2)) (pk_sub (a := n3) (b := 2) (by omega)) ?_
                  refine lv_iload hx hb d_Model_command_402 (lv_at hl 1 rfl) ?_
                  have J27 : ∀ (y28 : Int32) (H : Heap) (locs : List Loc), y28 = (if y16 = 0 then ((upd dr3 (9 + ln) y26) (n3 - 2)) else (if ((x7 / 8) - (x7 / 8) / 2 * 2) = 1 then (0) else ((upd dr3 (9 + ln) y26) (n3 - 2)))) → va_P D vwCl [(h0, .inr (7, [.int tg, .ref a_st, .ref a_ck, .ref a_en, .ref a_au, .ref a_he, .ref a_qu, .ref a_lo, .ref a_ow, .ref a_fl, .ref a_ti, .ref a_gd, .ref a_ak, .ref a_sp, .ref a_se, .ref a_sd, .ref a_rw, .ref a_sz, .ref a_op, .ref a_th, .ref a_me, .ref a_pk, .int (nI kc), .int cm, .int su, .ref a_re, .int (nI kq), .ref a_dr])), (a_dr, .inl (cI, 40, .inl (upd dr3 (9 + ln) y26))), (a_th, .inl (cZ, 2, .inl th)), (a_rw, .inl (cI, 256, .inl rw)), (a_sz, .inl (cI, 4, .inl (szf Ls)))] H → va_D A [(h0, .inr (7, [.int tg, .ref a_st, .ref a_ck, .ref a_en, .ref a_au, .ref a_he, .ref a_qu, .ref a_lo, .ref a_ow, .ref a_fl, .ref a_ti, .ref a_gd, .ref a_ak, .ref a_sp, .ref a_se, .ref a_sd, .ref a_rw, .ref a_sz, .ref a_op, .ref a_th, .ref a_me, .ref a_pk, .int (nI kc), .int cm, .int su, .ref a_re, .int (nI kq), .ref a_dr])), (a_dr, .inl (cI, 40, .inl (upd dr3 (9 + ln) y26))), (a_th, .inl (cZ, 2, .inl th)), (a_rw, .inl (cI, 256, .inl rw)), (a_sz, .inl (cI, 4, .inl (szf Ls)))] → va_S A s.heap H locs → W p l e rm_Model_command s m args below meth c H locs 0 0 Q (F0 m 431 ls [.int y28, .int (nI (n3 - 2)), .ref a_dr]) := by
                    intro y28 H locs hy28 hP hD hS
                    replace hq := hq.trans (bnd_eq hy28)
                    try dsimp only at hq
                    refine xiast (k := (n3 - 2)) hx hb hK hP hD hS 1 0 rfl rfl rfl (by omega) (by decide) d_Model_command_431 (fun H locs hP hD hS => ?_)
                    replace hP : va_P D vwCl [(h0, .inr (7, [.int tg, .ref a_st, .ref a_ck, .ref a_en, .ref a_au, .ref a_he, .ref a_qu, .ref a_lo, .ref a_ow, .ref a_fl, .ref a_ti, .ref a_gd, .ref a_ak, .ref a_sp, .ref a_se, .ref a_sd, .ref a_rw, .ref a_sz, .ref a_op, .ref a_th, .ref a_me, .ref a_pk, .int (nI kc), .int cm, .int su, .ref a_re, .int (nI kq), .ref a_dr])), (a_dr, .inl (cI, 40, .inl (upd (upd dr3 (9 + ln) y26) (n3 - 2) y28))), (a_th, .inl (cZ, 2, .inl th)), (a_rw, .inl (cI, 256, .inl rw)), (a_sz, .inl (cI, 4, .inl (szf Ls)))] H := hP
                    replace hD : va_D A [(h0, .inr (7, [.int tg, .ref a_st, .ref a_ck, .ref a_en, .ref a_au, .ref a_he, .ref a_qu, .ref a_lo, .ref a_ow, .ref a_fl, .ref a_ti, .ref a_gd, .ref a_ak, .ref a_sp, .ref a_se, .ref a_sd, .ref a_rw, .ref a_sz, .ref a_op, .ref a_th, .ref a_me, .ref a_pk, .int (nI kc), .int cm, .int su, .ref a_re, .int (nI kq), .ref a_dr])), (a_dr, .inl (cI, 40, .inl (upd (upd dr3 (9 + ln) y26) (n3 - 2) y28))), (a_th, .inl (cZ, 2, .inl th)), (a_rw, .inl (cI, 256, .inl rw)), (a_sz, .inl (cI, 4, .inl (szf Ls)))] := hD
                    refine lv_aload_n hx hb d_Model_command_432 rfl (lv_at hl 2 rfl) ?_
                    refine va_get (D := D) (ci := 7) (v := .ref a_dr) (C := R_Model) (T := F_Model) (N := 28) hx hb hts hin_Model hown hK hP 0 rfl rfl 27 (by decide) (hts _ (xm ww_560)) (fun _ h9 => h9) rfl d_Model_command_433 ?_
                    refine lv_iload hx hb d_Model_command_436 (lv_at hl 0 rfl) ?_
                    refine lv_iconst (v := 1) hx hb d_Model_command_438 rfl ?_
                    refine lv_isub hx hb d_Model_command_439 ?_
                    refine xtop (y := nI (n3 - 1)) (pk_sub (a := n3) (b := 1) (by omega)) ?_
                    refine lv_iload hx hb d_Model_command_440 (lv_at hl 9 rfl) ?_
                    refine lv_bipush (v := 16) hx hb d_Model_command_442 rfl ?_
                    refine lv_idiv hx hb d_Model_command_444 (by decide) ?_
                    refine lv_iconst (v := 1) hx hb d_Model_command_445 rfl ?_
                    have J29 : ∀ (y30 : Int32) (H : Heap) (locs : List Loc), y30 = (if (x7 / 16) = 1 then (257) else (256)) → va_P D vwCl [(h0, .inr (7, [.int tg, .ref a_st, .ref a_ck, .ref a_en, .ref a_au, .ref a_he, .ref a_qu, .ref a_lo, .ref a_ow, .ref a_fl, .ref a_ti, .ref a_gd, .ref a_ak, .ref a_sp, .ref a_se, .ref a_sd, .ref a_rw, .ref a_sz, .ref a_op, .ref a_th, .ref a_me, .ref a_pk, .int (nI kc), .int cm, .int su, .ref a_re, .int (nI kq), .ref a_dr])), (a_dr, .inl (cI, 40, .inl (upd (upd dr3 (9 + ln) y26) (n3 - 2) y28))), (a_th, .inl (cZ, 2, .inl th)), (a_rw, .inl (cI, 256, .inl rw)), (a_sz, .inl (cI, 4, .inl (szf Ls)))] H → va_D A [(h0, .inr (7, [.int tg, .ref a_st, .ref a_ck, .ref a_en, .ref a_au, .ref a_he, .ref a_qu, .ref a_lo, .ref a_ow, .ref a_fl, .ref a_ti, .ref a_gd, .ref a_ak, .ref a_sp, .ref a_se, .ref a_sd, .ref a_rw, .ref a_sz, .ref a_op, .ref a_th, .ref a_me, .ref a_pk, .int (nI kc), .int cm, .int su, .ref a_re, .int (nI kq), .ref a_dr])), (a_dr, .inl (cI, 40, .inl (upd (upd dr3 (9 + ln) y26) (n3 - 2) y28))), (a_th, .inl (cZ, 2, .inl th)), (a_rw, .inl (cI, 256, .inl rw)), (a_sz, .inl (cI, 4, .inl (szf Ls)))] → va_S A s.heap H locs → W p l e rm_Model_command s m args below meth c H locs 0 0 Q (F0 m 458 ls [.int y30, .int (nI (n3 - 1)), .ref a_dr]) := by
                      intro y30 H locs hy30 hP hD hS
                      replace hq := hq.trans (bnd_eq hy30)
                      try dsimp only at hq
                      refine xiast (k := (n3 - 1)) hx hb hK hP hD hS 1 0 rfl rfl rfl (by omega) (by decide) d_Model_command_458 (fun H locs hP hD hS => ?_)
                      replace hP : va_P D vwCl [(h0, .inr (7, [.int tg, .ref a_st, .ref a_ck, .ref a_en, .ref a_au, .ref a_he, .ref a_qu, .ref a_lo, .ref a_ow, .ref a_fl, .ref a_ti, .ref a_gd, .ref a_ak, .ref a_sp, .ref a_se, .ref a_sd, .ref a_rw, .ref a_sz, .ref a_op, .ref a_th, .ref a_me, .ref a_pk, .int (nI kc), .int cm, .int su, .ref a_re, .int (nI kq), .ref a_dr])), (a_dr, .inl (cI, 40, .inl (upd (upd (upd dr3 (9 + ln) y26) (n3 - 2) y28) (n3 - 1) y30))), (a_th, .inl (cZ, 2, .inl th)), (a_rw, .inl (cI, 256, .inl rw)), (a_sz, .inl (cI, 4, .inl (szf Ls)))] H := hP
                      replace hD : va_D A [(h0, .inr (7, [.int tg, .ref a_st, .ref a_ck, .ref a_en, .ref a_au, .ref a_he, .ref a_qu, .ref a_lo, .ref a_ow, .ref a_fl, .ref a_ti, .ref a_gd, .ref a_ak, .ref a_sp, .ref a_se, .ref a_sd, .ref a_rw, .ref a_sz, .ref a_op, .ref a_th, .ref a_me, .ref a_pk, .int (nI kc), .int cm, .int su, .ref a_re, .int (nI kq), .ref a_dr])), (a_dr, .inl (cI, 40, .inl (upd (upd (upd dr3 (9 + ln) y26) (n3 - 2) y28) (n3 - 1) y30))), (a_th, .inl (cZ, 2, .inl th)), (a_rw, .inl (cI, 256, .inl rw)), (a_sz, .inl (cI, 4, .inl (szf Ls)))] := hD
                      obtain ⟨dr4, hdr4⟩ : ∃ z, z = (upd (upd (upd dr3 (9 + ln) y26) (n3 - 2) y28) (n3 - 1) y30) := ⟨_, rfl⟩
                      rw [← hdr4] at hP hD
                      replace hP : va_P D vwCl [(h0, .inr (7, [.int tg, .ref a_st, .ref a_ck, .ref a_en, .ref a_au, .ref a_he, .ref a_qu, .ref a_lo, .ref a_ow, .ref a_fl, .ref a_ti, .ref a_gd, .ref a_ak, .ref a_sp, .ref a_se, .ref a_sd, .ref a_rw, .ref a_sz, .ref a_op, .ref a_th, .ref a_me, .ref a_pk, .int (nI kc), .int cm, .int su, .ref a_re, .int (nI kq), .ref a_dr])), (a_dr, .inl (cI, 40, .inl dr4)), (a_th, .inl (cZ, 2, .inl th)), (a_rw, .inl (cI, 256, .inl rw)), (a_sz, .inl (cI, 4, .inl (szf Ls)))] H := hP
                      replace hD : va_D A [(h0, .inr (7, [.int tg, .ref a_st, .ref a_ck, .ref a_en, .ref a_au, .ref a_he, .ref a_qu, .ref a_lo, .ref a_ow, .ref a_fl, .ref a_ti, .ref a_gd, .ref a_ak, .ref a_sp, .ref a_se, .ref a_sd, .ref a_rw, .ref a_sz, .ref a_op, .ref a_th, .ref a_me, .ref a_pk, .int (nI kc), .int cm, .int su, .ref a_re, .int (nI kq), .ref a_dr])), (a_dr, .inl (cI, 40, .inl dr4)), (a_th, .inl (cZ, 2, .inl th)), (a_rw, .inl (cI, 256, .inl rw)), (a_sz, .inl (cI, 4, .inl (szf Ls)))] := hD
                      replace hq := hq.trans (bnd_eq hdr4)
                      try dsimp only at hq
                      refine lv_iconst (v := 0) hx hb d_Model_command_459 rfl ?_
                      refine lv_istore hx hb d_Model_command_460 hl (by decide) rfl (fun ls hl => ?_)
                      replace hl : lv_has ls 12 [(11, .int 0), (9, .int (nI n3)), (8, .int y16), (0, .ref h0), (1, .int x1), (2, .int x2), (3, .int x3), (4, .int x4), (5, .int (nI ln)), (6, .int x6), (7, .int x7), (10, .int xc)] := hl
                      have LPlp_mapp : ∀ (nlp_mapp : Nat) (j : Nat) (th1 : Nat → Int32) (Ls1 : Nat → List Int32) (rw1 : Nat → Int32) (ls : Array Slot) (H : Heap) (locs : List Loc), (j ≤ n3) → ((Ls1 0).length + (n3 - j) ≤ 64) → (RepM rw1 Ls1) → n3 - j ≤ nlp_mapp → lv_has ls 12 [(11, .int (nI j)), (9, .int (nI n3)), (8, .int y16), (0, .ref h0), (1, .int x1), (2, .int x2), (3, .int x3), (4, .int x4), (5, .int (nI ln)), (6, .int x6), (7, .int x7), (10, .int xc)] → va_P D vwCl [(h0, .inr (7, [.int tg, .ref a_st, .ref a_ck, .ref a_en, .ref a_au, .ref a_he, .ref a_qu, .ref a_lo, .ref a_ow, .ref a_fl, .ref a_ti, .ref a_gd, .ref a_ak, .ref a_sp, .ref a_se, .ref a_sd, .ref a_rw, .ref a_sz, .ref a_op, .ref a_th, .ref a_me, .ref a_pk, .int (nI kc), .int cm, .int su, .ref a_re, .int (nI kq), .ref a_dr])), (a_dr, .inl (cI, 40, .inl dr4)), (a_th, .inl (cZ, 2, .inl th1)), (a_rw, .inl (cI, 256, .inl rw1)), (a_sz, .inl (cI, 4, .inl (szf Ls1)))] H → va_D A [(h0, .inr (7, [.int tg, .ref a_st, .ref a_ck, .ref a_en, .ref a_au, .ref a_he, .ref a_qu, .ref a_lo, .ref a_ow, .ref a_fl, .ref a_ti, .ref a_gd, .ref a_ak, .ref a_sp, .ref a_se, .ref a_sd, .ref a_rw, .ref a_sz, .ref a_op, .ref a_th, .ref a_me, .ref a_pk, .int (nI kc), .int cm, .int su, .ref a_re, .int (nI kq), .ref a_dr])), (a_dr, .inl (cI, 40, .inl dr4)), (a_th, .inl (cZ, 2, .inl th1)), (a_rw, .inl (cI, 256, .inl rw1)), (a_sz, .inl (cI, 4, .inl (szf Ls1)))] → va_S A s.heap H locs → s_Model_command dr th Ls x1 x2 x3 x4 x5 x6 x7 = lp_mapp n3 dr4 nlp_mapp j th1 Ls1 → W p l e rm_Model_command s m args below meth c H locs 0 0 Q (F0 m 462 ls []) := by
                        intro nlp_mapp
                        induction nlp_mapp with
                        | zero =>
                          intro j th1 Ls1 rw1 ls H locs hj hL1 hM1 hmlp_mapp hl hP hD hS hq
                          replace hq : s_Model_command dr th Ls x1 x2 x3 x4 x5 x6 x7 = ((nI ((Ls1 0).length), dr4, th1, Ls1)) := hq
                          refine lv_iload hx hb d_Model_command_462 (lv_at hl 0 rfl) ?_
                          refine lv_iload hx hb d_Model_command_464 (lv_at hl 1 rfl) ?_
                          refine lv_icmp_ge (tgt := 487) hx hb d_Model_command_466 rfl (fun h31 => ?_) (fun h31 => ?_)
                          rotate_left
                          · exact absurd (nI_le (by omega) (by omega)) h31
                          refine lv_aload_n hx hb d_Model_command_487 rfl (lv_at hl 3 rfl) ?_
                          refine va_get (D := D) (ci := 7) (v := .ref a_sz) (C := R_Model) (T := F_Model) (N := 28) hx hb hts hin_Model hown hK hP 0 rfl rfl 17 (by decide) (hts _ (xm ww_550)) (fun _ h9 => h9) rfl d_Model_command_488 ?_
                          refine lv_iconst (v := 0) hx hb d_Model_command_491 rfl ?_
                          refine xiald (k := 0) hx hb hK hP 4 0 rfl rfl rfl (by decide) (by decide) d_Model_command_492 ?_
                          refine xtop (y := nI ((Ls1 0).length)) rfl ?_
                          exact hret (nI ((Ls1 0).length)) (dr4, th1, Ls1, rw1) ⟨hq.symm, hM1⟩ _ _ _ _ hP hD hS d_Model_command_493
                        | succ nlp_mapp ihlp_mapp =>
                          intro j th1 Ls1 rw1 ls H locs hj hL1 hM1 hmlp_mapp hl hP hD hS hq
                          replace hq : s_Model_command dr th Ls x1 x2 x3 x4 x5 x6 x7 = (if (nI n3) ≤ (nI j) then (nI ((Ls1 0).length), dr4, th1, Ls1) else (bnd2 (s_Model_append th1 Ls1 0 (dr4 j)) (fun th33 Ls33 => lp_mapp n3 dr4 nlp_mapp (j + 1) th33 Ls33))) := hq
                          refine lv_iload hx hb d_Model_command_462 (lv_at hl 0 rfl) ?_
                          refine lv_iload hx hb d_Model_command_464 (lv_at hl 1 rfl) ?_
                          refine lv_icmp_ge (tgt := 487) hx hb d_Model_command_466 rfl (fun h32 => ?_) (fun h32 => ?_)
                          · replace hq := hq.trans (if_pos h32)
                            refine lv_aload_n hx hb d_Model_command_487 rfl (lv_at hl 3 rfl) ?_
                            refine va_get (D := D) (ci := 7) (v := .ref a_sz) (C := R_Model) (T := F_Model) (N := 28) hx hb hts hin_Model hown hK hP 0 rfl rfl 17 (by decide) (hts _ (xm ww_550)) (fun _ h9 => h9) rfl d_Model_command_488 ?_
                            refine lv_iconst (v := 0) hx hb d_Model_command_491 rfl ?_
                            refine xiald (k := 0) hx hb hK hP 4 0 rfl rfl rfl (by decide) (by decide) d_Model_command_492 ?_
                            refine xtop (y := nI ((Ls1 0).length)) rfl ?_
                            exact hret (nI ((Ls1 0).length)) (dr4, th1, Ls1, rw1) ⟨hq.symm, hM1⟩ _ _ _ _ hP hD hS d_Model_command_493
                          replace hq := hq.trans (if_neg h32)
                          have hjl : j < n3 := Nat.lt_of_not_le fun h9 => h32 (nI_le h9 (by omega))
                          refine lv_aload_n hx hb d_Model_command_469 rfl (lv_at hl 3 rfl) ?_
                          refine lv_iconst (v := 0) hx hb d_Model_command_470 rfl ?_
                          refine lv_aload_n hx hb d_Model_command_471 rfl (lv_at hl 3 rfl) ?_
                          refine va_get (D := D) (ci := 7) (v := .ref a_dr) (C := R_Model) (T := F_Model) (N := 28) hx hb hts hin_Model hown hK hP 0 rfl rfl 27 (by decide) (hts _ (xm ww_560)) (fun _ h9 => h9) rfl d_Model_command_472 ?_
                          refine lv_iload hx hb d_Model_command_475 (lv_at hl 0 rfl) ?_
                          refine xiald (k := j) hx hb hK hP 1 0 rfl rfl rfl (Nat.lt_of_lt_of_le hjl (by omega)) (by decide) d_Model_command_477 ?_
                          refine xcall_v (wc := [(h0, .inr (7, [.int tg, .ref a_st, .ref a_ck, .ref a_en, .ref a_au, .ref a_he, .ref a_qu, .ref a_lo, .ref a_ow, .ref a_fl, .ref a_ti, .ref a_gd, .ref a_ak, .ref a_sp, .ref a_se, .ref a_sd, .ref a_rw, .ref a_sz, .ref a_op, .ref a_th, .ref a_me, .ref a_pk, .int (nI kc), .int cm, .int su, .ref a_re, .int (nI kq), .ref a_dr])), (a_th, .inl (cZ, 2, .inl th1)), (a_rw, .inl (cI, 256, .inl rw1)), (a_sz, .inl (cI, 4, .inl (szf Ls1)))]) (wr := [(a_dr, .inl (cI, 40, .inl dr4))]) (ws1 := fun (u : (Nat → Int32) × (Nat → List Int32) × (Nat → Int32)) => [(h0, .inr (7, [.int tg, .ref a_st, .ref a_ck, .ref a_en, .ref a_au, .ref a_he, .ref a_qu, .ref a_lo, .ref a_ow, .ref a_fl, .ref a_ti, .ref a_gd, .ref a_ak, .ref a_sp, .ref a_se, .ref a_sd, .ref a_rw, .ref a_sz, .ref a_op, .ref a_th, .ref a_me, .ref a_pk, .int (nI kc), .int cm, .int su, .ref a_re, .int (nI kq), .ref a_dr])), (a_dr, .inl (cI, 40, .inl dr4)), (a_th, .inl (cZ, 2, .inl u.1)), (a_rw, .inl (cI, 256, .inl u.2.2)), (a_sz, .inl (cI, 4, .inl (szf u.2.1)))]) (va_runV (As := [.int 0, .int (dr4 j)]) (rest := []) ⟨hx, hb, hml, hown, hts⟩ (c_Model_append th1 Ls1 0 (dr4 j) h0 a_st a_ck a_en a_au a_he a_qu a_lo a_ow a_fl a_ti a_gd a_ak a_sp a_se a_sd a_rw a_sz a_op a_th a_me a_pk a_re a_dr tg kc cm su kq rw1 hM1 (by omega) (fun _ => by show (Ls1 0).length < 64; omega) H.size) (xcwV 2 hts ww_713 ww_710 ww_712 ws_Model_append ww_8 (by decide +kernel) rfl rfl ⟨Nat.le_of_ble_eq_true rfl, Nat.le_of_ble_eq_true rfl⟩) (xPreV (ci := 7) (q0 := 0) (q := (R_Model, F_Model, 28)) (hP.sub [0, 2, 3, 4] rfl) (hD.sub [0, 2, 3, 4] (by decide) rfl) hK hN rfl rfl rfl) rfl rfl hl.1 rfl (lv_room (Nat.le_of_ble_eq_true rfl)) d_Model_command_478 ⟨Nat.le_of_ble_eq_true rfl, Nat.le_of_ble_eq_true rfl⟩) hP hD hS hA [0, 2, 3, 4] [1] [1, 0, 2, 3, 4] rfl rfl (by decide) (by decide) (by decide) (fun _ => rfl) (fun u33 H locs hw hP hD hS => ?_)
                          obtain ⟨th33, Ls33, rw33⟩ := u33
                          try dsimp only at hw
                          obtain ⟨hw, hM_33⟩ := hw
                          replace hP : va_P D vwCl [(h0, .inr (7, [.int tg, .ref a_st, .ref a_ck, .ref a_en, .ref a_au, .ref a_he, .ref a_qu, .ref a_lo, .ref a_ow, .ref a_fl, .ref a_ti, .ref a_gd, .ref a_ak, .ref a_sp, .ref a_se, .ref a_sd, .ref a_rw, .ref a_sz, .ref a_op, .ref a_th, .ref a_me, .ref a_pk, .int (nI kc), .int cm, .int su, .ref a_re, .int (nI kq), .ref a_dr])), (a_dr, .inl (cI, 40, .inl dr4)), (a_th, .inl (cZ, 2, .inl th33)), (a_rw, .inl (cI, 256, .inl rw33)), (a_sz, .inl (cI, 4, .inl (szf Ls33)))] H := hP
                          replace hD : va_D A [(h0, .inr (7, [.int tg, .ref a_st, .ref a_ck, .ref a_en, .ref a_au, .ref a_he, .ref a_qu, .ref a_lo, .ref a_ow, .ref a_fl, .ref a_ti, .ref a_gd, .ref a_ak, .ref a_sp, .ref a_se, .ref a_sd, .ref a_rw, .ref a_sz, .ref a_op, .ref a_th, .ref a_me, .ref a_pk, .int (nI kc), .int cm, .int su, .ref a_re, .int (nI kq), .ref a_dr])), (a_dr, .inl (cI, 40, .inl dr4)), (a_th, .inl (cZ, 2, .inl th33)), (a_rw, .inl (cI, 256, .inl rw33)), (a_sz, .inl (cI, 4, .inl (szf Ls33)))] := hD
                          have hw_33 := hw
                          replace hq := hq.trans (bnd2_eq hw)
                          try dsimp only at hq
                          refine lv_iinc (k := 0) (v := nI (j + 1)) hx hb d_Model_command_481 hl rfl (nI_1 j) (by decide) rfl (fun ls hl => ?_)
                          replace hl : lv_has ls 12 [(11, .int (nI (j + 1))), (9, .int (nI n3)), (8, .int y16), (0, .ref h0), (1, .int x1), (2, .int x2), (3, .int x3), (4, .int x4), (5, .int (nI ln)), (6, .int x6), (7, .int x7), (10, .int xc)] := hl
                          refine lv_goto (tgt := 462) hx hb d_Model_command_484 rfl ?_
                          exact ihlp_mapp (j + 1) th33 Ls33 rw33 _ _ _ (Nat.lt_of_not_le fun h9 => h32 (nI_le h9 (by omega))) (by have h9 := append_len hw_33 0; omega) hM_33 (by omega) (lv_sub hl [0, 1, 2, 3, 4, 5, 6, 7, 8, 9, 10, 11] rfl) hP hD hS hq
                      exact LPlp_mapp (n3 - 0) 0 th Ls rw _ _ _ (by omega) (by omega) hM (Nat.le_refl _) (lv_sub hl [0, 1, 2, 3, 4, 5, 6, 7, 8, 9, 10, 11] rfl) hP hD hS hq
                    have hv : ((if (x7 / 16) = 1 then (257) else (256)) : Int32) = (if (x7 / 16) = 1 then (257) else (256)) := rfl
                    refine lv_icmp_ne (tgt := 455) hx hb d_Model_command_446 rfl (fun h34 => ?_) (fun h34 => ?_)
                    · replace hv := hv.trans (if_neg h34)
                      refine lv_sipush (v := 256) hx hb d_Model_command_455 rfl ?_
                      exact J29 _ _ _ hv.symm hP hD hS
                    replace hv := hv.trans (if_pos h34)
                    refine lv_sipush (v := 257) hx hb d_Model_command_449 rfl ?_
                    refine lv_goto (tgt := 458) hx hb d_Model_command_452 rfl ?_
                    exact J29 _ _ _ hv.symm hP hD hS
                  have hv : ((if y16 = 0 then ((upd dr3 (9 + ln) y26) (n3 - 2)) else (if ((x7 / 8) - (x7 / 8) / 2 * 2) = 1 then (0) else ((upd dr3 (9 + ln) y26) (n3 - 2)))) : Int32) = (if y16 = 0 then ((upd dr3 (9 + ln) y26) (n3 - 2)) else (if ((x7 / 8) - (x7 / 8) / 2 * 2) = 1 then (0) else ((upd dr3 (9 + ln) y26) (n3 - 2)))) := rfl
                  refine lv_if_eq (tgt := 422) hx hb d_Model_command_404 rfl (fun h35 => ?_) (fun h35 => ?_)
                  · replace hv := hv.trans (if_pos h35)
                    refine lv_aload_n hx hb d_Model_command_422 rfl (lv_at hl 2 rfl) ?_
                    refine va_get (D := D) (ci := 7) (v := .ref a_dr) (C := R_Model) (T := F_Model) (N := 28) hx hb hts hin_Model hown hK hP 0 rfl rfl 27 (by decide) (hts _ (xm ww_560)) (fun _ h9 => h9) rfl d_Model_command_423 ?_
                    refine lv_iload hx hb d_Model_command_426 (lv_at hl 0 rfl) ?_
                    refine lv_iconst (v := 2) hx hb d_Model_command_428 rfl ?_
                    refine lv_isub hx hb d_Model_command_429 ?_
                    refine xtop (y := nI (n3 - 2)) (pk_sub (a := n3) (b := 2) (by omega)) ?_
                    refine xiald (k := (n3 - 2)) hx hb hK hP 1 0 rfl rfl rfl (by omega) (by decide) d_Model_command_430 ?_
                    exact J27 _ _ _ hv.symm hP hD hS
                  replace hv := hv.trans (if_neg h35)
                  refine lv_iload hx hb d_Model_command_407 (lv_at hl 9 rfl) ?_
                  refine lv_bipush (v := 8) hx hb d_Model_command_409 rfl ?_
                  refine lv_idiv hx hb d_Model_command_411 (by decide) ?_
                  refine lv_iconst (v := 2) hx hb d_Model_command_412 rfl ?_
                  refine lv_irem hx hb d_Model_command_413 (by decide) ?_
                  refine lv_iconst (v := 1) hx hb d_Model_command_414 rfl ?_
                  refine lv_icmp_ne (tgt := 422) hx hb d_Model_command_415 rfl (fun h36 => ?_) (fun h36 => ?_)
                  · replace hv := hv.trans (if_neg h36)
                    refine lv_aload_n hx hb d_Model_command_422 rfl (lv_at hl 2 rfl) ?_
                    refine va_get (D := D) (ci := 7) (v := .ref a_dr) (C := R_Model) (T := F_Model) (N := 28) hx hb hts hin_Model hown hK hP 0 rfl rfl 27 (by decide) (hts _ (xm ww_560)) (fun _ h9 => h9) rfl d_Model_command_423 ?_
                    refine lv_iload hx hb d_Model_command_426 (lv_at hl 0 rfl) ?_
                    refine lv_iconst (v := 2) hx hb d_Model_command_428 rfl ?_
                    refine lv_isub hx hb d_Model_command_429 ?_
                    refine xtop (y := nI (n3 - 2)) (pk_sub (a := n3) (b := 2) (by omega)) ?_
                    refine xiald (k := (n3 - 2)) hx hb hK hP 1 0 rfl rfl rfl (by omega) (by decide) d_Model_command_430 ?_
                    exact J27 _ _ _ hv.symm hP hD hS
                  replace hv := hv.trans (if_pos h36)
                  refine lv_iconst (v := 0) hx hb d_Model_command_418 rfl ?_
                  refine lv_goto (tgt := 431) hx hb d_Model_command_419 rfl ?_
                  exact J27 _ _ _ hv.symm hP hD hS
                have hv : ((if ((x7 / 2) - (x7 / 2) / 2 * 2) = 1 then (xc ^^^ 1) else (xc)) : Int32) = (if ((x7 / 2) - (x7 / 2) / 2 * 2) = 1 then (xc ^^^ 1) else (xc)) := rfl
                refine lv_icmp_ne (tgt := 391) hx hb d_Model_command_381 rfl (fun h37 => ?_) (fun h37 => ?_)
                · replace hv := hv.trans (if_neg h37)
                  refine lv_iload hx hb d_Model_command_391 (lv_at hl 10 rfl) ?_
                  exact J25 _ _ _ hv.symm hP hD hS
                replace hv := hv.trans (if_pos h37)
                refine lv_iload hx hb d_Model_command_384 (lv_at hl 10 rfl) ?_
                refine lv_iconst (v := 1) hx hb d_Model_command_386 rfl ?_
                refine lv_ixor hx hb d_Model_command_387 ?_
                refine lv_goto (tgt := 393) hx hb d_Model_command_388 rfl ?_
                exact J25 _ _ _ hv.symm hP hD hS
              refine va_get (D := D) (ci := 7) (v := .ref a_dr) (C := R_Model) (T := F_Model) (N := 28) hx hb hts hin_Model hown hK hP 0 rfl rfl 27 (by decide) (hts _ (xm ww_560)) (fun _ h9 => h9) rfl d_Model_command_185 ?_
              refine lv_iconst (v := 0) hx hb d_Model_command_188 rfl ?_
              refine lv_sipush (v := 254) hx hb d_Model_command_189 rfl ?_
              refine xiast (k := 0) hx hb hK hP hD hS 1 0 rfl rfl rfl (by decide) (by decide) d_Model_command_192 (fun H locs hP hD hS => ?_)
              replace hP : va_P D vwCl [(h0, .inr (7, [.int tg, .ref a_st, .ref a_ck, .ref a_en, .ref a_au, .ref a_he, .ref a_qu, .ref a_lo, .ref a_ow, .ref a_fl, .ref a_ti, .ref a_gd, .ref a_ak, .ref a_sp, .ref a_se, .ref a_sd, .ref a_rw, .ref a_sz, .ref a_op, .ref a_th, .ref a_me, .ref a_pk, .int (nI kc), .int cm, .int su, .ref a_re, .int (nI kq), .ref a_dr])), (a_dr, .inl (cI, 40, .inl (upd dr 0 254))), (a_th, .inl (cZ, 2, .inl th)), (a_rw, .inl (cI, 256, .inl rw)), (a_sz, .inl (cI, 4, .inl (szf Ls)))] H := hP
              replace hD : va_D A [(h0, .inr (7, [.int tg, .ref a_st, .ref a_ck, .ref a_en, .ref a_au, .ref a_he, .ref a_qu, .ref a_lo, .ref a_ow, .ref a_fl, .ref a_ti, .ref a_gd, .ref a_ak, .ref a_sp, .ref a_se, .ref a_sd, .ref a_rw, .ref a_sz, .ref a_op, .ref a_th, .ref a_me, .ref a_pk, .int (nI kc), .int cm, .int su, .ref a_re, .int (nI kq), .ref a_dr])), (a_dr, .inl (cI, 40, .inl (upd dr 0 254))), (a_th, .inl (cZ, 2, .inl th)), (a_rw, .inl (cI, 256, .inl rw)), (a_sz, .inl (cI, 4, .inl (szf Ls)))] := hD
              refine lv_aload_n hx hb d_Model_command_193 rfl (lv_at hl 2 rfl) ?_
              refine va_get (D := D) (ci := 7) (v := .ref a_dr) (C := R_Model) (T := F_Model) (N := 28) hx hb hts hin_Model hown hK hP 0 rfl rfl 27 (by decide) (hts _ (xm ww_560)) (fun _ h9 => h9) rfl d_Model_command_194 ?_
              refine lv_iconst (v := 1) hx hb d_Model_command_197 rfl ?_
              refine lv_iconst (v := 1) hx hb d_Model_command_198 rfl ?_
              refine xiast (k := 1) hx hb hK hP hD hS 1 0 rfl rfl rfl (by decide) (by decide) d_Model_command_199 (fun H locs hP hD hS => ?_)
              replace hP : va_P D vwCl [(h0, .inr (7, [.int tg, .ref a_st, .ref a_ck, .ref a_en, .ref a_au, .ref a_he, .ref a_qu, .ref a_lo, .ref a_ow, .ref a_fl, .ref a_ti, .ref a_gd, .ref a_ak, .ref a_sp, .ref a_se, .ref a_sd, .ref a_rw, .ref a_sz, .ref a_op, .ref a_th, .ref a_me, .ref a_pk, .int (nI kc), .int cm, .int su, .ref a_re, .int (nI kq), .ref a_dr])), (a_dr, .inl (cI, 40, .inl (upd (upd dr 0 254) 1 1))), (a_th, .inl (cZ, 2, .inl th)), (a_rw, .inl (cI, 256, .inl rw)), (a_sz, .inl (cI, 4, .inl (szf Ls)))] H := hP
              replace hD : va_D A [(h0, .inr (7, [.int tg, .ref a_st, .ref a_ck, .ref a_en, .ref a_au, .ref a_he, .ref a_qu, .ref a_lo, .ref a_ow, .ref a_fl, .ref a_ti, .ref a_gd, .ref a_ak, .ref a_sp, .ref a_se, .ref a_sd, .ref a_rw, .ref a_sz, .ref a_op, .ref a_th, .ref a_me, .ref a_pk, .int (nI kc), .int cm, .int su, .ref a_re, .int (nI kq), .ref a_dr])), (a_dr, .inl (cI, 40, .inl (upd (upd dr 0 254) 1 1))), (a_th, .inl (cZ, 2, .inl th)), (a_rw, .inl (cI, 256, .inl rw)), (a_sz, .inl (cI, 4, .inl (szf Ls)))] := hD
              refine lv_aload_n hx hb d_Model_command_200 rfl (lv_at hl 2 rfl) ?_
              refine va_get (D := D) (ci := 7) (v := .ref a_dr) (C := R_Model) (T := F_Model) (N := 28) hx hb hts hin_Model hown hK hP 0 rfl rfl 27 (by decide) (hts _ (xm ww_560)) (fun _ h9 => h9) rfl d_Model_command_201 ?_
              refine lv_iconst (v := 2) hx hb d_Model_command_204 rfl ?_
              refine lv_iload_n hx hb d_Model_command_205 rfl (lv_at hl 3 rfl) ?_
              refine xiast (k := 2) hx hb hK hP hD hS 1 0 rfl rfl rfl (by decide) (by decide) d_Model_command_206 (fun H locs hP hD hS => ?_)
              replace hP : va_P D vwCl [(h0, .inr (7, [.int tg, .ref a_st, .ref a_ck, .ref a_en, .ref a_au, .ref a_he, .ref a_qu, .ref a_lo, .ref a_ow, .ref a_fl, .ref a_ti, .ref a_gd, .ref a_ak, .ref a_sp, .ref a_se, .ref a_sd, .ref a_rw, .ref a_sz, .ref a_op, .ref a_th, .ref a_me, .ref a_pk, .int (nI kc), .int cm, .int su, .ref a_re, .int (nI kq), .ref a_dr])), (a_dr, .inl (cI, 40, .inl (upd (upd (upd dr 0 254) 1 1) 2 x1))), (a_th, .inl (cZ, 2, .inl th)), (a_rw, .inl (cI, 256, .inl rw)), (a_sz, .inl (cI, 4, .inl (szf Ls)))] H := hP
              replace hD : va_D A [(h0, .inr (7, [.int tg, .ref a_st, .ref a_ck, .ref a_en, .ref a_au, .ref a_he, .ref a_qu, .ref a_lo, .ref a_ow, .ref a_fl, .ref a_ti, .ref a_gd, .ref a_ak, .ref a_sp, .ref a_se, .ref a_sd, .ref a_rw, .ref a_sz, .ref a_op, .ref a_th, .ref a_me, .ref a_pk, .int (nI kc), .int cm, .int su, .ref a_re, .int (nI kq), .ref a_dr])), (a_dr, .inl (cI, 40, .inl (upd (upd (upd dr 0 254) 1 1) 2 x1))), (a_th, .inl (cZ, 2, .inl th)), (a_rw, .inl (cI, 256, .inl rw)), (a_sz, .inl (cI, 4, .inl (szf Ls)))] := hD
              refine lv_aload_n hx hb d_Model_command_207 rfl (lv_at hl 2 rfl) ?_
              refine va_get (D := D) (ci := 7) (v := .ref a_dr) (C := R_Model) (T := F_Model) (N := 28) hx hb hts hin_Model hown hK hP 0 rfl rfl 27 (by decide) (hts _ (xm ww_560)) (fun _ h9 => h9) rfl d_Model_command_208 ?_
              refine lv_iconst (v := 3) hx hb d_Model_command_211 rfl ?_
              refine lv_iload_n hx hb d_Model_command_212 rfl (lv_at hl 4 rfl) ?_
              refine xiast (k := 3) hx hb hK hP hD hS 1 0 rfl rfl rfl (by decide) (by decide) d_Model_command_213 (fun H locs hP hD hS => ?_)
              replace hP : va_P D vwCl [(h0, .inr (7, [.int tg, .ref a_st, .ref a_ck, .ref a_en, .ref a_au, .ref a_he, .ref a_qu, .ref a_lo, .ref a_ow, .ref a_fl, .ref a_ti, .ref a_gd, .ref a_ak, .ref a_sp, .ref a_se, .ref a_sd, .ref a_rw, .ref a_sz, .ref a_op, .ref a_th, .ref a_me, .ref a_pk, .int (nI kc), .int cm, .int su, .ref a_re, .int (nI kq), .ref a_dr])), (a_dr, .inl (cI, 40, .inl (upd (upd (upd (upd dr 0 254) 1 1) 2 x1) 3 x2))), (a_th, .inl (cZ, 2, .inl th)), (a_rw, .inl (cI, 256, .inl rw)), (a_sz, .inl (cI, 4, .inl (szf Ls)))] H := hP
              replace hD : va_D A [(h0, .inr (7, [.int tg, .ref a_st, .ref a_ck, .ref a_en, .ref a_au, .ref a_he, .ref a_qu, .ref a_lo, .ref a_ow, .ref a_fl, .ref a_ti, .ref a_gd, .ref a_ak, .ref a_sp, .ref a_se, .ref a_sd, .ref a_rw, .ref a_sz, .ref a_op, .ref a_th, .ref a_me, .ref a_pk, .int (nI kc), .int cm, .int su, .ref a_re, .int (nI kq), .ref a_dr])), (a_dr, .inl (cI, 40, .inl (upd (upd (upd (upd dr 0 254) 1 1) 2 x1) 3 x2))), (a_th, .inl (cZ, 2, .inl th)), (a_rw, .inl (cI, 256, .inl rw)), (a_sz, .inl (cI, 4, .inl (szf Ls)))] := hD
              refine lv_aload_n hx hb d_Model_command_214 rfl (lv_at hl 2 rfl) ?_
              refine va_get (D := D) (ci := 7) (v := .ref a_dr) (C := R_Model) (T := F_Model) (N := 28) hx hb hts hin_Model hown hK hP 0 rfl rfl 27 (by decide) (hts _ (xm ww_560)) (fun _ h9 => h9) rfl d_Model_command_215 ?_
              refine lv_iconst (v := 4) hx hb d_Model_command_218 rfl ?_
              refine lv_iload_n hx hb d_Model_command_219 rfl (lv_at hl 5 rfl) ?_
              refine lv_sipush (v := 256) hx hb d_Model_command_220 rfl ?_
              refine lv_idiv hx hb d_Model_command_223 (by decide) ?_
              refine xiast (k := 4) hx hb hK hP hD hS 1 0 rfl rfl rfl (by decide) (by decide) d_Model_command_224 (fun H locs hP hD hS => ?_)
              replace hP : va_P D vwCl [(h0, .inr (7, [.int tg, .ref a_st, .ref a_ck, .ref a_en, .ref a_au, .ref a_he, .ref a_qu, .ref a_lo, .ref a_ow, .ref a_fl, .ref a_ti, .ref a_gd, .ref a_ak, .ref a_sp, .ref a_se, .ref a_sd, .ref a_rw, .ref a_sz, .ref a_op, .ref a_th, .ref a_me, .ref a_pk, .int (nI kc), .int cm, .int su, .ref a_re, .int (nI kq), .ref a_dr])), (a_dr, .inl (cI, 40, .inl (upd (upd (upd (upd (upd dr 0 254) 1 1) 2 x1) 3 x2) 4 (x3 / 256)))), (a_th, .inl (cZ, 2, .inl th)), (a_rw, .inl (cI, 256, .inl rw)), (a_sz, .inl (cI, 4, .inl (szf Ls)))] H := hP
              replace hD : va_D A [(h0, .inr (7, [.int tg, .ref a_st, .ref a_ck, .ref a_en, .ref a_au, .ref a_he, .ref a_qu, .ref a_lo, .ref a_ow, .ref a_fl, .ref a_ti, .ref a_gd, .ref a_ak, .ref a_sp, .ref a_se, .ref a_sd, .ref a_rw, .ref a_sz, .ref a_op, .ref a_th, .ref a_me, .ref a_pk, .int (nI kc), .int cm, .int su, .ref a_re, .int (nI kq), .ref a_dr])), (a_dr, .inl (cI, 40, .inl (upd (upd (upd (upd (upd dr 0 254) 1 1) 2 x1) 3 x2) 4 (x3 / 256)))), (a_th, .inl (cZ, 2, .inl th)), (a_rw, .inl (cI, 256, .inl rw)), (a_sz, .inl (cI, 4, .inl (szf Ls)))] := hD
              refine lv_aload_n hx hb d_Model_command_225 rfl (lv_at hl 2 rfl) ?_
              refine va_get (D := D) (ci := 7) (v := .ref a_dr) (C := R_Model) (T := F_Model) (N := 28) hx hb hts hin_Model hown hK hP 0 rfl rfl 27 (by decide) (hts _ (xm ww_560)) (fun _ h9 => h9) rfl d_Model_command_226 ?_
              refine lv_iconst (v := 5) hx hb d_Model_command_229 rfl ?_
              refine lv_iload_n hx hb d_Model_command_230 rfl (lv_at hl 5 rfl) ?_
              refine lv_sipush (v := 256) hx hb d_Model_command_231 rfl ?_
              refine lv_irem hx hb d_Model_command_234 (by decide) ?_
              refine xiast (k := 5) hx hb hK hP hD hS 1 0 rfl rfl rfl (by decide) (by decide) d_Model_command_235 (fun H locs hP hD hS => ?_)
              replace hP : va_P D vwCl [(h0, .inr (7, [.int tg, .ref a_st, .ref a_ck, .ref a_en, .ref a_au, .ref a_he, .ref a_qu, .ref a_lo, .ref a_ow, .ref a_fl, .ref a_ti, .ref a_gd, .ref a_ak, .ref a_sp, .ref a_se, .ref a_sd, .ref a_rw, .ref a_sz, .ref a_op, .ref a_th, .ref a_me, .ref a_pk, .int (nI kc), .int cm, .int su, .ref a_re, .int (nI kq), .ref a_dr])), (a_dr, .inl (cI, 40, .inl (upd (upd (upd (upd (upd (upd dr 0 254) 1 1) 2 x1) 3 x2) 4 (x3 / 256)) 5 (x3 - x3 / 256 * 256)))), (a_th, .inl (cZ, 2, .inl th)), (a_rw, .inl (cI, 256, .inl rw)), (a_sz, .inl (cI, 4, .inl (szf Ls)))] H := hP
              replace hD : va_D A [(h0, .inr (7, [.int tg, .ref a_st, .ref a_ck, .ref a_en, .ref a_au, .ref a_he, .ref a_qu, .ref a_lo, .ref a_ow, .ref a_fl, .ref a_ti, .ref a_gd, .ref a_ak, .ref a_sp, .ref a_se, .ref a_sd, .ref a_rw, .ref a_sz, .ref a_op, .ref a_th, .ref a_me, .ref a_pk, .int (nI kc), .int cm, .int su, .ref a_re, .int (nI kq), .ref a_dr])), (a_dr, .inl (cI, 40, .inl (upd (upd (upd (upd (upd (upd dr 0 254) 1 1) 2 x1) 3 x2) 4 (x3 / 256)) 5 (x3 - x3 / 256 * 256)))), (a_th, .inl (cZ, 2, .inl th)), (a_rw, .inl (cI, 256, .inl rw)), (a_sz, .inl (cI, 4, .inl (szf Ls)))] := hD
              refine lv_aload_n hx hb d_Model_command_236 rfl (lv_at hl 2 rfl) ?_
              refine va_get (D := D) (ci := 7) (v := .ref a_dr) (C := R_Model) (T := F_Model) (N := 28) hx hb hts hin_Model hown hK hP 0 rfl rfl 27 (by decide) (hts _ (xm ww_560)) (fun _ h9 => h9) rfl d_Model_command_237 ?_
              refine lv_bipush (v := 6) hx hb d_Model_command_240 rfl ?_
              refine lv_iload hx hb d_Model_command_242 (lv_at hl 6 rfl) ?_
              refine xiast (k := 6) hx hb hK hP hD hS 1 0 rfl rfl rfl (by decide) (by decide) d_Model_command_244 (fun H locs hP hD hS => ?_)
              replace hP : va_P D vwCl [(h0, .inr (7, [.int tg, .ref a_st, .ref a_ck, .ref a_en, .ref a_au, .ref a_he, .ref a_qu, .ref a_lo, .ref a_ow, .ref a_fl, .ref a_ti, .ref a_gd, .ref a_ak, .ref a_sp, .ref a_se, .ref a_sd, .ref a_rw, .ref a_sz, .ref a_op, .ref a_th, .ref a_me, .ref a_pk, .int (nI kc), .int cm, .int su, .ref a_re, .int (nI kq), .ref a_dr])), (a_dr, .inl (cI, 40, .inl (upd (upd (upd (upd (upd (upd (upd dr 0 254) 1 1) 2 x1) 3 x2) 4 (x3 / 256)) 5 (x3 - x3 / 256 * 256)) 6 x4))), (a_th, .inl (cZ, 2, .inl th)), (a_rw, .inl (cI, 256, .inl rw)), (a_sz, .inl (cI, 4, .inl (szf Ls)))] H := hP
              replace hD : va_D A [(h0, .inr (7, [.int tg, .ref a_st, .ref a_ck, .ref a_en, .ref a_au, .ref a_he, .ref a_qu, .ref a_lo, .ref a_ow, .ref a_fl, .ref a_ti, .ref a_gd, .ref a_ak, .ref a_sp, .ref a_se, .ref a_sd, .ref a_rw, .ref a_sz, .ref a_op, .ref a_th, .ref a_me, .ref a_pk, .int (nI kc), .int cm, .int su, .ref a_re, .int (nI kq), .ref a_dr])), (a_dr, .inl (cI, 40, .inl (upd (upd (upd (upd (upd (upd (upd dr 0 254) 1 1) 2 x1) 3 x2) 4 (x3 / 256)) 5 (x3 - x3 / 256 * 256)) 6 x4))), (a_th, .inl (cZ, 2, .inl th)), (a_rw, .inl (cI, 256, .inl rw)), (a_sz, .inl (cI, 4, .inl (szf Ls)))] := hD
              refine lv_aload_n hx hb d_Model_command_245 rfl (lv_at hl 2 rfl) ?_
              refine va_get (D := D) (ci := 7) (v := .ref a_dr) (C := R_Model) (T := F_Model) (N := 28) hx hb hts hin_Model hown hK hP 0 rfl rfl 27 (by decide) (hts _ (xm ww_560)) (fun _ h9 => h9) rfl d_Model_command_246 ?_
              refine lv_bipush (v := 7) hx hb d_Model_command_249 rfl ?_
              refine lv_iload hx hb d_Model_command_251 (lv_at hl 7 rfl) ?_
              refine xiast (k := 7) hx hb hK hP hD hS 1 0 rfl rfl rfl (by decide) (by decide) d_Model_command_253 (fun H locs hP hD hS => ?_)
              replace hP : va_P D vwCl [(h0, .inr (7, [.int tg, .ref a_st, .ref a_ck, .ref a_en, .ref a_au, .ref a_he, .ref a_qu, .ref a_lo, .ref a_ow, .ref a_fl, .ref a_ti, .ref a_gd, .ref a_ak, .ref a_sp, .ref a_se, .ref a_sd, .ref a_rw, .ref a_sz, .ref a_op, .ref a_th, .ref a_me, .ref a_pk, .int (nI kc), .int cm, .int su, .ref a_re, .int (nI kq), .ref a_dr])), (a_dr, .inl (cI, 40, .inl (upd (upd (upd (upd (upd (upd (upd (upd dr 0 254) 1 1) 2 x1) 3 x2) 4 (x3 / 256)) 5 (x3 - x3 / 256 * 256)) 6 x4) 7 (nI ln)))), (a_th, .inl (cZ, 2, .inl th)), (a_rw, .inl (cI, 256, .inl rw)), (a_sz, .inl (cI, 4, .inl (szf Ls)))] H := hP
              replace hD : va_D A [(h0, .inr (7, [.int tg, .ref a_st, .ref a_ck, .ref a_en, .ref a_au, .ref a_he, .ref a_qu, .ref a_lo, .ref a_ow, .ref a_fl, .ref a_ti, .ref a_gd, .ref a_ak, .ref a_sp, .ref a_se, .ref a_sd, .ref a_rw, .ref a_sz, .ref a_op, .ref a_th, .ref a_me, .ref a_pk, .int (nI kc), .int cm, .int su, .ref a_re, .int (nI kq), .ref a_dr])), (a_dr, .inl (cI, 40, .inl (upd (upd (upd (upd (upd (upd (upd (upd dr 0 254) 1 1) 2 x1) 3 x2) 4 (x3 / 256)) 5 (x3 - x3 / 256 * 256)) 6 x4) 7 (nI ln)))), (a_th, .inl (cZ, 2, .inl th)), (a_rw, .inl (cI, 256, .inl rw)), (a_sz, .inl (cI, 4, .inl (szf Ls)))] := hD
              obtain ⟨dr1, hdr1⟩ : ∃ z, z = (upd (upd (upd (upd (upd (upd (upd (upd dr 0 254) 1 1) 2 x1) 3 x2) 4 (x3 / 256)) 5 (x3 - x3 / 256 * 256)) 6 x4) 7 (nI ln)) := ⟨_, rfl⟩
              rw [← hdr1] at hP hD
              replace hP : va_P D vwCl [(h0, .inr (7, [.int tg, .ref a_st, .ref a_ck, .ref a_en, .ref a_au, .ref a_he, .ref a_qu, .ref a_lo, .ref a_ow, .ref a_fl, .ref a_ti, .ref a_gd, .ref a_ak, .ref a_sp, .ref a_se, .ref a_sd, .ref a_rw, .ref a_sz, .ref a_op, .ref a_th, .ref a_me, .ref a_pk, .int (nI kc), .int cm, .int su, .ref a_re, .int (nI kq), .ref a_dr])), (a_dr, .inl (cI, 40, .inl dr1)), (a_th, .inl (cZ, 2, .inl th)), (a_rw, .inl (cI, 256, .inl rw)), (a_sz, .inl (cI, 4, .inl (szf Ls)))] H := hP
              replace hD : va_D A [(h0, .inr (7, [.int tg, .ref a_st, .ref a_ck, .ref a_en, .ref a_au, .ref a_he, .ref a_qu, .ref a_lo, .ref a_ow, .ref a_fl, .ref a_ti, .ref a_gd, .ref a_ak, .ref a_sp, .ref a_se, .ref a_sd, .ref a_rw, .ref a_sz, .ref a_op, .ref a_th, .ref a_me, .ref a_pk, .int (nI kc), .int cm, .int su, .ref a_re, .int (nI kq), .ref a_dr])), (a_dr, .inl (cI, 40, .inl dr1)), (a_th, .inl (cZ, 2, .inl th)), (a_rw, .inl (cI, 256, .inl rw)), (a_sz, .inl (cI, 4, .inl (szf Ls)))] := hD
              replace hq := hq.trans (bnd_eq hdr1)
              try dsimp only at hq
              refine lv_iconst (v := 0) hx hb d_Model_command_254 rfl ?_
              refine lv_istore hx hb d_Model_command_255 hl (by decide) rfl (fun ls hl => ?_)
              replace hl : lv_has ls 12 [(10, .int 0), (9, .int (nI n3)), (8, .int y16), (0, .ref h0), (1, .int x1), (2, .int x2), (3, .int x3), (4, .int x4), (5, .int (nI ln)), (6, .int x6), (7, .int x7)] := hl
              refine lv_iconst (v := 0) hx hb d_Model_command_257 rfl ?_
              refine lv_istore hx hb d_Model_command_258 hl (by decide) rfl (fun ls hl => ?_)
              replace hl : lv_has ls 12 [(11, .int 0), (10, .int 0), (9, .int (nI n3)), (8, .int y16), (0, .ref h0), (1, .int x1), (2, .int x2), (3, .int x3), (4, .int x4), (5, .int (nI ln)), (6, .int x6), (7, .int x7)] := hl
              refine lv_iload hx hb d_Model_command_260 (lv_at hl 0 rfl) ?_
              refine lv_bipush (v := 8) hx hb d_Model_command_262 rfl ?_
              refine lv_icmp_ge (tgt := 287) hx hb d_Model_command_264 rfl (fun h9 => absurd h9 (by decide)) (fun _ => ?_)
              refine lv_iload hx hb d_Model_command_267 (lv_at hl 1 rfl) ?_
              refine lv_aload_n hx hb d_Model_command_269 rfl (lv_at hl 4 rfl) ?_
              refine va_get (D := D) (ci := 7) (v := .ref a_dr) (C := R_Model) (T := F_Model) (N := 28) hx hb hts hin_Model hown hK hP 0 rfl rfl 27 (by decide) (hts _ (xm ww_560)) (fun _ h9 => h9) rfl d_Model_command_270 ?_
              refine lv_iload hx hb d_Model_command_273 (lv_at hl 0 rfl) ?_
              refine xiald (k := 0) hx hb hK hP 1 0 rfl rfl rfl (by decide) (by decide) d_Model_command_275 ?_
              refine xcall_i (wc := []) (wr := [(h0, .inr (7, [.int tg, .ref a_st, .ref a_ck, .ref a_en, .ref a_au, .ref a_he, .ref a_qu, .ref a_lo, .ref a_ow, .ref a_fl, .ref a_ti, .ref a_gd, .ref a_ak, .ref a_sp, .ref a_se, .ref a_sd, .ref a_rw, .ref a_sz, .ref a_op, .ref a_th, .ref a_me, .ref a_pk, .int (nI kc), .int cm, .int su, .ref a_re, .int (nI kq), .ref a_dr])), (a_dr, .inl (cI, 40, .inl dr1)), (a_th, .inl (cZ, 2, .inl th)), (a_rw, .inl (cI, 256, .inl rw)), (a_sz, .inl (cI, 4, .inl (szf Ls)))]) (ws1 := fun (u : Unit) => [(h0, .inr (7, [.int tg, .ref a_st, .ref a_ck, .ref a_en, .ref a_au, .ref a_he, .ref a_qu, .ref a_lo, .ref a_ow, .ref a_fl, .ref a_ti, .ref a_gd, .ref a_ak, .ref a_sp, .ref a_se, .ref a_sd, .ref a_rw, .ref a_sz, .ref a_op, .ref a_th, .ref a_me, .ref a_pk, .int (nI kc), .int cm, .int su, .ref a_re, .int (nI kq), .ref a_dr])), (a_dr, .inl (cI, 40, .inl dr1)), (a_th, .inl (cZ, 2, .inl th)), (a_rw, .inl (cI, 256, .inl rw)), (a_sz, .inl (cI, 4, .inl (szf Ls)))]) (va_runS (As := [.int 0, .int (dr1 0)]) (rest := []) ⟨hx, hb, hml, hown, hts⟩ (c_Model_mixed 0 (dr1 0) H.size) (xcwS 2 hts ww_673 ww_671 ww_672 ww_8 (by decide +kernel) rfl rfl ⟨Nat.le_of_ble_eq_true rfl, Nat.le_of_ble_eq_true rfl⟩) (xPreS (hP.sub [] rfl) (hD.sub [] (by decide) rfl) hK hN) rfl rfl hl.1 rfl (lv_room (Nat.le_of_ble_eq_true rfl)) d_Model_command_276 ⟨Nat.le_of_ble_eq_true rfl, Nat.le_of_ble_eq_true rfl⟩) hP hD hS hA [] [0, 1, 2, 3, 4] [0, 1, 2, 3, 4] rfl rfl (by decide) (by decide) (by decide) (fun _ => rfl) (fun r38 u38 H locs hw hP hD hS => ?_)
              refine xtop hw ?_
              replace hP : va_P D vwCl [(h0, .inr (7, [.int tg, .ref a_st, .ref a_ck, .ref a_en, .ref a_au, .ref a_he, .ref a_qu, .ref a_lo, .ref a_ow, .ref a_fl, .ref a_ti, .ref a_gd, .ref a_ak, .ref a_sp, .ref a_se, .ref a_sd, .ref a_rw, .ref a_sz, .ref a_op, .ref a_th, .ref a_me, .ref a_pk, .int (nI kc), .int cm, .int su, .ref a_re, .int (nI kq), .ref a_dr])), (a_dr, .inl (cI, 40, .inl dr1)), (a_th, .inl (cZ, 2, .inl th)), (a_rw, .inl (cI, 256, .inl rw)), (a_sz, .inl (cI, 4, .inl (szf Ls)))] H := hP
              replace hD : va_D A [(h0, .inr (7, [.int tg, .ref a_st, .ref a_ck, .ref a_en, .ref a_au, .ref a_he, .ref a_qu, .ref a_lo, .ref a_ow, .ref a_fl, .ref a_ti, .ref a_gd, .ref a_ak, .ref a_sp, .ref a_se, .ref a_sd, .ref a_rw, .ref a_sz, .ref a_op, .ref a_th, .ref a_me, .ref a_pk, .int (nI kc), .int cm, .int su, .ref a_re, .int (nI kq), .ref a_dr])), (a_dr, .inl (cI, 40, .inl dr1)), (a_th, .inl (cZ, 2, .inl th)), (a_rw, .inl (cI, 256, .inl rw)), (a_sz, .inl (cI, 4, .inl (szf Ls)))] := hD
              refine lv_topi (fun cx39 hcx39 => ?_)
              replace hq := hq.trans (bnd_eq hcx39)
              try dsimp only at hq
              refine lv_istore hx hb d_Model_command_279 hl (by decide) rfl (fun ls hl => ?_)
              replace hl : lv_has ls 12 [(10, .int cx39), (11, .int 0), (9, .int (nI n3)), (8, .int y16), (0, .ref h0), (1, .int x1), (2, .int x2), (3, .int x3), (4, .int x4), (5, .int (nI ln)), (6, .int x6), (7, .int x7)] := hl
              refine lv_iinc (k := 1) (v := 1) hx hb d_Model_command_281 hl rfl rfl (by decide) rfl (fun ls hl => ?_)
              replace hl : lv_has ls 12 [(11, .int 1), (10, .int cx39), (9, .int (nI n3)), (8, .int y16), (0, .ref h0), (1, .int x1), (2, .int x2), (3, .int x3), (4, .int x4), (5, .int (nI ln)), (6, .int x6), (7, .int x7)] := hl
              refine lv_goto (tgt := 260) hx hb d_Model_command_284 rfl ?_
              refine lv_iload hx hb d_Model_command_260 (lv_at hl 0 rfl) ?_
              refine lv_bipush (v := 8) hx hb d_Model_command_262 rfl ?_
              refine lv_icmp_ge (tgt := 287) hx hb d_Model_command_264 rfl (fun h9 => absurd h9 (by decide)) (fun _ => ?_)
              refine lv_iload hx hb d_Model_command_267 (lv_at hl 1 rfl) ?_
              refine lv_aload_n hx hb d_Model_command_269 rfl (lv_at hl 4 rfl) ?_
              refine va_get (D := D) (ci := 7) (v := .ref a_dr) (C := R_Model) (T := F_Model) (N := 28) hx hb hts hin_Model hown hK hP 0 rfl rfl 27 (by decide) (hts _ (xm ww_560)) (fun _ h9 => h9) rfl d_Model_command_270 ?_
              refine lv_iload hx hb d_Model_command_273 (lv_at hl 0 rfl) ?_
              refine xiald (k := 1) hx hb hK hP 1 0 rfl rfl rfl (by decide) (by decide) d_Model_command_275 ?_
              refine xcall_i (wc := []) (wr := [(h0, .inr (7, [.int tg, .ref a_st, .ref a_ck, .ref a_en, .ref a_au, .ref a_he, .ref a_qu, .ref a_lo, .ref a_ow, .ref a_fl, .ref a_ti, .ref a_gd, .ref a_ak, .ref a_sp, .ref a_se, .ref a_sd, .ref a_rw, .ref a_sz, .ref a_op, .ref a_th, .ref a_me, .ref a_pk, .int (nI kc), .int cm, .int su, .ref a_re, .int (nI kq), .ref a_dr])), (a_dr, .inl (cI, 40, .inl dr1)), (a_th, .inl (cZ, 2, .inl th)), (a_rw, .inl (cI, 256, .inl rw)), (a_sz, .inl (cI, 4, .inl (szf Ls)))]) (ws1 := fun (u : Unit) => [(h0, .inr (7, [.int tg, .ref a_st, .ref a_ck, .ref a_en, .ref a_au, .ref a_he, .ref a_qu, .ref a_lo, .ref a_ow, .ref a_fl, .ref a_ti, .ref a_gd, .ref a_ak, .ref a_sp, .ref a_se, .ref a_sd, .ref a_rw, .ref a_sz, .ref a_op, .ref a_th, .ref a_me, .ref a_pk, .int (nI kc), .int cm, .int su, .ref a_re, .int (nI kq), .ref a_dr])), (a_dr, .inl (cI, 40, .inl dr1)), (a_th, .inl (cZ, 2, .inl th)), (a_rw, .inl (cI, 256, .inl rw)), (a_sz, .inl (cI, 4, .inl (szf Ls)))]) (va_runS (As := [.int cx39, .int (dr1 1)]) (rest := []) ⟨hx, hb, hml, hown, hts⟩ (c_Model_mixed cx39 (dr1 1) H.size) (xcwS 2 hts ww_673 ww_671 ww_672 ww_8 (by decide +kernel) rfl rfl ⟨Nat.le_of_ble_eq_true rfl, Nat.le_of_ble_eq_true rfl⟩) (xPreS (hP.sub [] rfl) (hD.sub [] (by decide) rfl) hK hN) rfl rfl hl.1 rfl (lv_room (Nat.le_of_ble_eq_true rfl)) d_Model_command_276 ⟨Nat.le_of_ble_eq_true rfl, Nat.le_of_ble_eq_true rfl⟩) hP hD hS hA [] [0, 1, 2, 3, 4] [0, 1, 2, 3, 4] rfl rfl (by decide) (by decide) (by decide) (fun _ => rfl) (fun r40 u40 H locs hw hP hD hS => ?_)
              refine xtop hw ?_
              replace hP : va_P D vwCl [(h0, .inr (7, [.int tg, .ref a_st, .ref a_ck, .ref a_en, .ref a_au, .ref a_he, .ref a_qu, .ref a_lo, .ref a_ow, .ref a_fl, .ref a_ti, .ref a_gd, .ref a_ak, .ref a_sp, .ref a_se, .ref a_sd, .ref a_rw, .ref a_sz, .ref a_op, .ref a_th, .ref a_me, .ref a_pk, .int (nI kc), .int cm, .int su, .ref a_re, .int (nI kq), .ref a_dr])), (a_dr, .inl (cI, 40, .inl dr1)), (a_th, .inl (cZ, 2, .inl th)), (a_rw, .inl (cI, 256, .inl rw)), (a_sz, .inl (cI, 4, .inl (szf Ls)))] H := hP
              replace hD : va_D A [(h0, .inr (7, [.int tg, .ref a_st, .ref a_ck, .ref a_en, .ref a_au, .ref a_he, .ref a_qu, .ref a_lo, .ref a_ow, .ref a_fl, .ref a_ti, .ref a_gd, .ref a_ak, .ref a_sp, .ref a_se, .ref a_sd, .ref a_rw, .ref a_sz, .ref a_op, .ref a_th, .ref a_me, .ref a_pk, .int (nI kc), .int cm, .int su, .ref a_re, .int (nI kq), .ref a_dr])), (a_dr, .inl (cI, 40, .inl dr1)), (a_th, .inl (cZ, 2, .inl th)), (a_rw, .inl (cI, 256, .inl rw)), (a_sz, .inl (cI, 4, .inl (szf Ls)))] := hD
              refine lv_topi (fun cx41 hcx41 => ?_)
              replace hq := hq.trans (bnd_eq hcx41)
              try dsimp only at hq
              refine lv_istore hx hb d_Model_command_279 hl (by decide) rfl (fun ls hl => ?_)
              replace hl : lv_has ls 12 [(10, .int cx41), (11, .int 1), (9, .int (nI n3)), (8, .int y16), (0, .ref h0), (1, .int x1), (2, .int x2), (3, .int x3), (4, .int x4), (5, .int (nI ln)), (6, .int x6), (7, .int x7)] := hl
              refine lv_iinc (k := 1) (v := 2) hx hb d_Model_command_281 hl rfl rfl (by decide) rfl (fun ls hl => ?_)
              replace hl : lv_has ls 12 [(11, .int 2), (10, .int cx41), (9, .int (nI n3)), (8, .int y16), (0, .ref h0), (1, .int x1), (2, .int x2), (3, .int x3), (4, .int x4), (5, .int (nI ln)), (6, .int x6), (7, .int x7)] := hl
              refine lv_goto (tgt := 260) hx hb d_Model_command_284 rfl ?_
              refine lv_iload hx hb d_Model_command_260 (lv_at hl 0 rfl) ?_
              refine lv_bipush (v := 8) hx hb d_Model_command_262 rfl ?_
              refine lv_icmp_ge (tgt := 287) hx hb d_Model_command_264 rfl (fun h9 => absurd h9 (by decide)) (fun _ => ?_)
              refine lv_iload hx hb d_Model_command_267 (lv_at hl 1 rfl) ?_
              refine lv_aload_n hx hb d_Model_command_269 rfl (lv_at hl 4 rfl) ?_
              refine va_get (D := D) (ci := 7) (v := .ref a_dr) (C := R_Model) (T := F_Model) (N := 28) hx hb hts hin_Model hown hK hP 0 rfl rfl 27 (by decide) (hts _ (xm ww_560)) (fun _ h9 => h9) rfl d_Model_command_270 ?_
              refine lv_iload hx hb d_Model_command_273 (lv_at hl 0 rfl) ?_
              refine xiald (k := 2) hx hb hK hP 1 0 rfl rfl rfl (by decide) (by decide) d_Model_command_275 ?_
              refine xcall_i (wc := []) (wr := [(h0, .inr (7, [.int tg, .ref a_st, .ref a_ck, .ref a_en, .ref a_au, .ref a_he, .ref a_qu, .ref a_lo, .ref a_ow, .ref a_fl, .ref a_ti, .ref a_gd, .ref a_ak, .ref a_sp, .ref a_se, .ref a_sd, .ref a_rw, .ref a_sz, .ref a_op, .ref a_th, .ref a_me, .ref a_pk, .int (nI kc), .int cm, .int su, .ref a_re, .int (nI kq), .ref a_dr])), (a_dr, .inl (cI, 40, .inl dr1)), (a_th, .inl (cZ, 2, .inl th)), (a_rw, .inl (cI, 256, .inl rw)), (a_sz, .inl (cI, 4, .inl (szf Ls)))]) (ws1 := fun (u : Unit) => [(h0, .inr (7, [.int tg, .ref a_st, .ref a_ck, .ref a_en, .ref a_au, .ref a_he, .ref a_qu, .ref a_lo, .ref a_ow, .ref a_fl, .ref a_ti, .ref a_gd, .ref a_ak, .ref a_sp, .ref a_se, .ref a_sd, .ref a_rw, .ref a_sz, .ref a_op, .ref a_th, .ref a_me, .ref a_pk, .int (nI kc), .int cm, .int su, .ref a_re, .int (nI kq), .ref a_dr])), (a_dr, .inl (cI, 40, .inl dr1)), (a_th, .inl (cZ, 2, .inl th)), (a_rw, .inl (cI, 256, .inl rw)), (a_sz, .inl (cI, 4, .inl (szf Ls)))]) (va_runS (As := [.int cx41, .int (dr1 2)]) (rest := []) ⟨hx, hb, hml, hown, hts⟩ (c_Model_mixed cx41 (dr1 2) H.size) (xcwS 2 hts ww_673 ww_671 ww_672 ww_8 (by decide +kernel) rfl rfl ⟨Nat.le_of_ble_eq_true rfl, Nat.le_of_ble_eq_true rfl⟩) (xPreS (hP.sub [] rfl) (hD.sub [] (by decide) rfl) hK hN) rfl rfl hl.1 rfl (lv_room (Nat.le_of_ble_eq_true rfl)) d_Model_command_276 ⟨Nat.le_of_ble_eq_true rfl, Nat.le_of_ble_eq_true rfl⟩) hP hD hS hA [] [0, 1, 2, 3, 4] [0, 1, 2, 3, 4] rfl rfl (by decide) (by decide) (by decide) (fun _ => rfl) (fun r42 u42 H locs hw hP hD hS => ?_)
              refine xtop hw ?_
              replace hP : va_P D vwCl [(h0, .inr (7, [.int tg, .ref a_st, .ref a_ck, .ref a_en, .ref a_au, .ref a_he, .ref a_qu, .ref a_lo, .ref a_ow, .ref a_fl, .ref a_ti, .ref a_gd, .ref a_ak, .ref a_sp, .ref a_se, .ref a_sd, .ref a_rw, .ref a_sz, .ref a_op, .ref a_th, .ref a_me, .ref a_pk, .int (nI kc), .int cm, .int su, .ref a_re, .int (nI kq), .ref a_dr])), (a_dr, .inl (cI, 40, .inl dr1)), (a_th, .inl (cZ, 2, .inl th)), (a_rw, .inl (cI, 256, .inl rw)), (a_sz, .inl (cI, 4, .inl (szf Ls)))] H := hP
              replace hD : va_D A [(h0, .inr (7, [.int tg, .ref a_st, .ref a_ck, .ref a_en, .ref a_au, .ref a_he, .ref a_qu, .ref a_lo, .ref a_ow, .ref a_fl, .ref a_ti, .ref a_gd, .ref a_ak, .ref a_sp, .ref a_se, .ref a_sd, .ref a_rw, .ref a_sz, .ref a_op, .ref a_th, .ref a_me, .ref a_pk, .int (nI kc), .int cm, .int su, .ref a_re, .int (nI kq), .ref a_dr])), (a_dr, .inl (cI, 40, .inl dr1)), (a_th, .inl (cZ, 2, .inl th)), (a_rw, .inl (cI, 256, .inl rw)), (a_sz, .inl (cI, 4, .inl (szf Ls)))] := hD
              refine lv_topi (fun cx43 hcx43 => ?_)
              replace hq := hq.trans (bnd_eq hcx43)
              try dsimp only at hq
              refine lv_istore hx hb d_Model_command_279 hl (by decide) rfl (fun ls hl => ?_)
              replace hl : lv_has ls 12 [(10, .int cx43), (11, .int 2), (9, .int (nI n3)), (8, .int y16), (0, .ref h0), (1, .int x1), (2, .int x2), (3, .int x3), (4, .int x4), (5, .int (nI ln)), (6, .int x6), (7, .int x7)] := hl
              refine lv_iinc (k := 1) (v := 3) hx hb d_Model_command_281 hl rfl rfl (by decide) rfl (fun ls hl => ?_)
              replace hl : lv_has ls 12 [(11, .int 3), (10, .int cx43), (9, .int (nI n3)), (8, .int y16), (0, .ref h0), (1, .int x1), (2, .int x2), (3, .int x3), (4, .int x4), (5, .int (nI ln)), (6, .int x6), (7, .int x7)] := hl
              refine lv_goto (tgt := 260) hx hb d_Model_command_284 rfl ?_
              refine lv_iload hx hb d_Model_command_260 (lv_at hl 0 rfl) ?_
              refine lv_bipush (v := 8) hx hb d_Model_command_262 rfl ?_
              refine lv_icmp_ge (tgt := 287) hx hb d_Model_command_264 rfl (fun h9 => absurd h9 (by decide)) (fun _ => ?_)
              refine lv_iload hx hb d_Model_command_267 (lv_at hl 1 rfl) ?_
              refine lv_aload_n hx hb d_Model_command_269 rfl (lv_at hl 4 rfl) ?_
              refine va_get (D := D) (ci := 7) (v := .ref a_dr) (C := R_Model) (T := F_Model) (N := 28) hx hb hts hin_Model hown hK hP 0 rfl rfl 27 (by decide) (hts _ (xm ww_560)) (fun _ h9 => h9) rfl d_Model_command_270 ?_
              refine lv_iload hx hb d_Model_command_273 (lv_at hl 0 rfl) ?_
              refine xiald (k := 3) hx hb hK hP 1 0 rfl rfl rfl (by decide) (by decide) d_Model_command_275 ?_
              refine xcall_i (wc := []) (wr := [(h0, .inr (7, [.int tg, .ref a_st, .ref a_ck, .ref a_en, .ref a_au, .ref a_he, .ref a_qu, .ref a_lo, .ref a_ow, .ref a_fl, .ref a_ti, .ref a_gd, .ref a_ak, .ref a_sp, .ref a_se, .ref a_sd, .ref a_rw, .ref a_sz, .ref a_op, .ref a_th, .ref a_me, .ref a_pk, .int (nI kc), .int cm, .int su, .ref a_re, .int (nI kq), .ref a_dr])), (a_dr, .inl (cI, 40, .inl dr1)), (a_th, .inl (cZ, 2, .inl th)), (a_rw, .inl (cI, 256, .inl rw)), (a_sz, .inl (cI, 4, .inl (szf Ls)))]) (ws1 := fun (u : Unit) => [(h0, .inr (7, [.int tg, .ref a_st, .ref a_ck, .ref a_en, .ref a_au, .ref a_he, .ref a_qu, .ref a_lo, .ref a_ow, .ref a_fl, .ref a_ti, .ref a_gd, .ref a_ak, .ref a_sp, .ref a_se, .ref a_sd, .ref a_rw, .ref a_sz, .ref a_op, .ref a_th, .ref a_me, .ref a_pk, .int (nI kc), .int cm, .int su, .ref a_re, .int (nI kq), .ref a_dr])), (a_dr, .inl (cI, 40, .inl dr1)), (a_th, .inl (cZ, 2, .inl th)), (a_rw, .inl (cI, 256, .inl rw)), (a_sz, .inl (cI, 4, .inl (szf Ls)))]) (va_runS (As := [.int cx43, .int (dr1 3)]) (rest := []) ⟨hx, hb, hml, hown, hts⟩ (c_Model_mixed cx43 (dr1 3) H.size) (xcwS 2 hts ww_673 ww_671 ww_672 ww_8 (by decide +kernel) rfl rfl ⟨Nat.le_of_ble_eq_true rfl, Nat.le_of_ble_eq_true rfl⟩) (xPreS (hP.sub [] rfl) (hD.sub [] (by decide) rfl) hK hN) rfl rfl hl.1 rfl (lv_room (Nat.le_of_ble_eq_true rfl)) d_Model_command_276 ⟨Nat.le_of_ble_eq_true rfl, Nat.le_of_ble_eq_true rfl⟩) hP hD hS hA [] [0, 1, 2, 3, 4] [0, 1, 2, 3, 4] rfl rfl (by decide) (by decide) (by decide) (fun _ => rfl) (fun r44 u44 H locs hw hP hD hS => ?_)
              refine xtop hw ?_
              replace hP : va_P D vwCl [(h0, .inr (7, [.int tg, .ref a_st, .ref a_ck, .ref a_en, .ref a_au, .ref a_he, .ref a_qu, .ref a_lo, .ref a_ow, .ref a_fl, .ref a_ti, .ref a_gd, .ref a_ak, .ref a_sp, .ref a_se, .ref a_sd, .ref a_rw, .ref a_sz, .ref a_op, .ref a_th, .ref a_me, .ref a_pk, .int (nI kc), .int cm, .int su, .ref a_re, .int (nI kq), .ref a_dr])), (a_dr, .inl (cI, 40, .inl dr1)), (a_th, .inl (cZ, 2, .inl th)), (a_rw, .inl (cI, 256, .inl rw)), (a_sz, .inl (cI, 4, .inl (szf Ls)))] H := hP
              replace hD : va_D A [(h0, .inr (7, [.int tg, .ref a_st, .ref a_ck, .ref a_en, .ref a_au, .ref a_he, .ref a_qu, .ref a_lo, .ref a_ow, .ref a_fl, .ref a_ti, .ref a_gd, .ref a_ak, .ref a_sp, .ref a_se, .ref a_sd, .ref a_rw, .ref a_sz, .ref a_op, .ref a_th, .ref a_me, .ref a_pk, .int (nI kc), .int cm, .int su, .ref a_re, .int (nI kq), .ref a_dr])), (a_dr, .inl (cI, 40, .inl dr1)), (a_th, .inl (cZ, 2, .inl th)), (a_rw, .inl (cI, 256, .inl rw)), (a_sz, .inl (cI, 4, .inl (szf Ls)))] := hD
              refine lv_topi (fun cx45 hcx45 => ?_)
              replace hq := hq.trans (bnd_eq hcx45)
              try dsimp only at hq
              refine lv_istore hx hb d_Model_command_279 hl (by decide) rfl (fun ls hl => ?_)
              replace hl : lv_has ls 12 [(10, .int cx45), (11, .int 3), (9, .int (nI n3)), (8, .int y16), (0, .ref h0), (1, .int x1), (2, .int x2), (3, .int x3), (4, .int x4), (5, .int (nI ln)), (6, .int x6), (7, .int x7)] := hl
              refine lv_iinc (k := 1) (v := 4) hx hb d_Model_command_281 hl rfl rfl (by decide) rfl (fun ls hl => ?_)
              replace hl : lv_has ls 12 [(11, .int 4), (10, .int cx45), (9, .int (nI n3)), (8, .int y16), (0, .ref h0), (1, .int x1), (2, .int x2), (3, .int x3), (4, .int x4), (5, .int (nI ln)), (6, .int x6), (7, .int x7)] := hl
              refine lv_goto (tgt := 260) hx hb d_Model_command_284 rfl ?_
              refine lv_iload hx hb d_Model_command_260 (lv_at hl 0 rfl) ?_
              refine lv_bipush (v := 8) hx hb d_Model_command_262 rfl ?_
              refine lv_icmp_ge (tgt := 287) hx hb d_Model_command_264 rfl (fun h9 => absurd h9 (by decide)) (fun _ => ?_)
              refine lv_iload hx hb d_Model_command_267 (lv_at hl 1 rfl) ?_
              refine lv_aload_n hx hb d_Model_command_269 rfl (lv_at hl 4 rfl) ?_
              refine va_get (D := D) (ci := 7) (v := .ref a_dr) (C := R_Model) (T := F_Model) (N := 28) hx hb hts hin_Model hown hK hP 0 rfl rfl 27 (by decide) (hts _ (xm ww_560)) (fun _ h9 => h9) rfl d_Model_command_270 ?_
              refine lv_iload hx hb d_Model_command_273 (lv_at hl 0 rfl) ?_
              refine xiald (k := 4) hx hb hK hP 1 0 rfl rfl rfl (by decide) (by decide) d_Model_command_275 ?_
              refine xcall_i (wc := []) (wr := [(h0, .inr (7, [.int tg, .ref a_st, .ref a_ck, .ref a_en, .ref a_au, .ref a_he, .ref a_qu, .ref a_lo, .ref a_ow, .ref a_fl, .ref a_ti, .ref a_gd, .ref a_ak, .ref a_sp, .ref a_se, .ref a_sd, .ref a_rw, .ref a_sz, .ref a_op, .ref a_th, .ref a_me, .ref a_pk, .int (nI kc), .int cm, .int su, .ref a_re, .int (nI kq), .ref a_dr])), (a_dr, .inl (cI, 40, .inl dr1)), (a_th, .inl (cZ, 2, .inl th)), (a_rw, .inl (cI, 256, .inl rw)), (a_sz, .inl (cI, 4, .inl (szf Ls)))]) (ws1 := fun (u : Unit) => [(h0, .inr (7, [.int tg, .ref a_st, .ref a_ck, .ref a_en, .ref a_au, .ref a_he, .ref a_qu, .ref a_lo, .ref a_ow, .ref a_fl, .ref a_ti, .ref a_gd, .ref a_ak, .ref a_sp, .ref a_se, .ref a_sd, .ref a_rw, .ref a_sz, .ref a_op, .ref a_th, .ref a_me, .ref a_pk, .int (nI kc), .int cm, .int su, .ref a_re, .int (nI kq), .ref a_dr])), (a_dr, .inl (cI, 40, .inl dr1)), (a_th, .inl (cZ, 2, .inl th)), (a_rw, .inl (cI, 256, .inl rw)), (a_sz, .inl (cI, 4, .inl (szf Ls)))]) (va_runS (As := [.int cx45, .int (dr1 4)]) (rest := []) ⟨hx, hb, hml, hown, hts⟩ (c_Model_mixed cx45 (dr1 4) H.size) (xcwS 2 hts ww_673 ww_671 ww_672 ww_8 (by decide +kernel) rfl rfl ⟨Nat.le_of_ble_eq_true rfl, Nat.le_of_ble_eq_true rfl⟩) (xPreS (hP.sub [] rfl) (hD.sub [] (by decide) rfl) hK hN) rfl rfl hl.1 rfl (lv_room (Nat.le_of_ble_eq_true rfl)) d_Model_command_276 ⟨Nat.le_of_ble_eq_true rfl, Nat.le_of_ble_eq_true rfl⟩) hP hD hS hA [] [0, 1, 2, 3, 4] [0, 1, 2, 3, 4] rfl rfl (by decide) (by decide) (by decide) (fun _ => rfl) (fun r46 u46 H locs hw hP hD hS => ?_)
              refine xtop hw ?_
              replace hP : va_P D vwCl [(h0, .inr (7, [.int tg, .ref a_st, .ref a_ck, .ref a_en, .ref a_au, .ref a_he, .ref a_qu, .ref a_lo, .ref a_ow, .ref a_fl, .ref a_ti, .ref a_gd, .ref a_ak, .ref a_sp, .ref a_se, .ref a_sd, .ref a_rw, .ref a_sz, .ref a_op, .ref a_th, .ref a_me, .ref a_pk, .int (nI kc), .int cm, .int su, .ref a_re, .int (nI kq), .ref a_dr])), (a_dr, .inl (cI, 40, .inl dr1)), (a_th, .inl (cZ, 2, .inl th)), (a_rw, .inl (cI, 256, .inl rw)), (a_sz, .inl (cI, 4, .inl (szf Ls)))] H := hP
              replace hD : va_D A [(h0, .inr (7, [.int tg, .ref a_st, .ref a_ck, .ref a_en, .ref a_au, .ref a_he, .ref a_qu, .ref a_lo, .ref a_ow, .ref a_fl, .ref a_ti, .ref a_gd, .ref a_ak, .ref a_sp, .ref a_se, .ref a_sd, .ref a_rw, .ref a_sz, .ref a_op, .ref a_th, .ref a_me, .ref a_pk, .int (nI kc), .int cm, .int su, .ref a_re, .int (nI kq), .ref a_dr])), (a_dr, .inl (cI, 40, .inl dr1)), (a_th, .inl (cZ, 2, .inl th)), (a_rw, .inl (cI, 256, .inl rw)), (a_sz, .inl (cI, 4, .inl (szf Ls)))] := hD
              refine lv_topi (fun cx47 hcx47 => ?_)
              replace hq := hq.trans (bnd_eq hcx47)
              try dsimp only at hq
              refine lv_istore hx hb d_Model_command_279 hl (by decide) rfl (fun ls hl => ?_)
              replace hl : lv_has ls 12 [(10, .int cx47), (11, .int 4), (9, .int (nI n3)), (8, .int y16), (0, .ref h0), (1, .int x1), (2, .int x2), (3, .int x3), (4, .int x4), (5, .int (nI ln)), (6, .int x6), (7, .int x7)] := hl
              refine lv_iinc (k := 1) (v := 5) hx hb d_Model_command_281 hl rfl rfl (by decide) rfl (fun ls hl => ?_)
              replace hl : lv_has ls 12 [(11, .int 5), (10, .int cx47), (9, .int (nI n3)), (8, .int y16), (0, .ref h0), (1, .int x1), (2, .int x2), (3, .int x3), (4, .int x4), (5, .int (nI ln)), (6, .int x6), (7, .int x7)] := hl
              refine lv_goto (tgt := 260) hx hb d_Model_command_284 rfl ?_
              refine lv_iload hx hb d_Model_command_260 (lv_at hl 0 rfl) ?_
              refine lv_bipush (v := 8) hx hb d_Model_command_262 rfl ?_
              refine lv_icmp_ge (tgt := 287) hx hb d_Model_command_264 rfl (fun h9 => absurd h9 (by decide)) (fun _ => ?_)
              refine lv_iload hx hb d_Model_command_267 (lv_at hl 1 rfl) ?_
              refine lv_aload_n hx hb d_Model_command_269 rfl (lv_at hl 4 rfl) ?_
              refine va_get (D := D) (ci := 7) (v := .ref a_dr) (C := R_Model) (T := F_Model) (N := 28) hx hb hts hin_Model hown hK hP 0 rfl rfl 27 (by decide) (hts _ (xm ww_560)) (fun _ h9 => h9) rfl d_Model_command_270 ?_
              refine lv_iload hx hb d_Model_command_273 (lv_at hl 0 rfl) ?_
              refine xiald (k := 5) hx hb hK hP 1 0 rfl rfl rfl (by decide) (by decide) d_Model_command_275 ?_
              refine xcall_i (wc := []) (wr := [(h0, .inr (7, [.int tg, .ref a_st, .ref a_ck, .ref a_en, .ref a_au, .ref a_he, .ref a_qu, .ref a_lo, .ref a_ow, .ref a_fl, .ref a_ti, .ref a_gd, .ref a_ak, .ref a_sp, .ref a_se, .ref a_sd, .ref a_rw, .ref a_sz, .ref a_op, .ref a_th, .ref a_me, .ref a_pk, .int (nI kc), .int cm, .int su, .ref a_re, .int (nI kq), .ref a_dr])), (a_dr, .inl (cI, 40, .inl dr1)), (a_th, .inl (cZ, 2, .inl th)), (a_rw, .inl (cI, 256, .inl rw)), (a_sz, .inl (cI, 4, .inl (szf Ls)))]) (ws1 := fun (u : Unit) => [(h0, .inr (7, [.int tg, .ref a_st, .ref a_ck, .ref a_en, .ref a_au, .ref a_he, .ref a_qu, .ref a_lo, .ref a_ow, .ref a_fl, .ref a_ti, .ref a_gd, .ref a_ak, .ref a_sp, .ref a_se, .ref a_sd, .ref a_rw, .ref a_sz, .ref a_op, .ref a_th, .ref a_me, .ref a_pk, .int (nI kc), .int cm, .int su, .ref a_re, .int (nI kq), .ref a_dr])), (a_dr, .inl (cI, 40, .inl dr1)), (a_th, .inl (cZ, 2, .inl th)), (a_rw, .inl (cI, 256, .inl rw)), (a_sz, .inl (cI, 4, .inl (szf Ls)))]) (va_runS (As := [.int cx47, .int (dr1 5)]) (rest := []) ⟨hx, hb, hml, hown, hts⟩ (c_Model_mixed cx47 (dr1 5) H.size) (xcwS 2 hts ww_673 ww_671 ww_672 ww_8 (by decide +kernel) rfl rfl ⟨Nat.le_of_ble_eq_true rfl, Nat.le_of_ble_eq_true rfl⟩) (xPreS (hP.sub [] rfl) (hD.sub [] (by decide) rfl) hK hN) rfl rfl hl.1 rfl (lv_room (Nat.le_of_ble_eq_true rfl)) d_Model_command_276 ⟨Nat.le_of_ble_eq_true rfl, Nat.le_of_ble_eq_true rfl⟩) hP hD hS hA [] [0, 1, 2, 3, 4] [0, 1, 2, 3, 4] rfl rfl (by decide) (by decide) (by decide) (fun _ => rfl) (fun r48 u48 H locs hw hP hD hS => ?_)
              refine xtop hw ?_
              replace hP : va_P D vwCl [(h0, .inr (7, [.int tg, .ref a_st, .ref a_ck, .ref a_en, .ref a_au, .ref a_he, .ref a_qu, .ref a_lo, .ref a_ow, .ref a_fl, .ref a_ti, .ref a_gd, .ref a_ak, .ref a_sp, .ref a_se, .ref a_sd, .ref a_rw, .ref a_sz, .ref a_op, .ref a_th, .ref a_me, .ref a_pk, .int (nI kc), .int cm, .int su, .ref a_re, .int (nI kq), .ref a_dr])), (a_dr, .inl (cI, 40, .inl dr1)), (a_th, .inl (cZ, 2, .inl th)), (a_rw, .inl (cI, 256, .inl rw)), (a_sz, .inl (cI, 4, .inl (szf Ls)))] H := hP
              replace hD : va_D A [(h0, .inr (7, [.int tg, .ref a_st, .ref a_ck, .ref a_en, .ref a_au, .ref a_he, .ref a_qu, .ref a_lo, .ref a_ow, .ref a_fl, .ref a_ti, .ref a_gd, .ref a_ak, .ref a_sp, .ref a_se, .ref a_sd, .ref a_rw, .ref a_sz, .ref a_op, .ref a_th, .ref a_me, .ref a_pk, .int (nI kc), .int cm, .int su, .ref a_re, .int (nI kq), .ref a_dr])), (a_dr, .inl (cI, 40, .inl dr1)), (a_th, .inl (cZ, 2, .inl th)), (a_rw, .inl (cI, 256, .inl rw)), (a_sz, .inl (cI, 4, .inl (szf Ls)))] := hD
              refine lv_topi (fun cx49 hcx49 => ?_)
              replace hq := hq.trans (bnd_eq hcx49)
              try dsimp only at hq
              refine lv_istore hx hb d_Model_command_279 hl (by decide) rfl (fun ls hl => ?_)
              replace hl : lv_has ls 12 [(10, .int cx49), (11, .int 5), (9, .int (nI n3)), (8, .int y16), (0, .ref h0), (1, .int x1), (2, .int x2), (3, .int x3), (4, .int x4), (5, .int (nI ln)), (6, .int x6), (7, .int x7)] := hl
              refine lv_iinc (k := 1) (v := 6) hx hb d_Model_command_281 hl rfl rfl (by decide) rfl (fun ls hl => ?_)
              replace hl : lv_has ls 12 [(11, .int 6), (10, .int cx49), (9, .int (nI n3)), (8, .int y16), (0, .ref h0), (1, .int x1), (2, .int x2), (3, .int x3), (4, .int x4), (5, .int (nI ln)), (6, .int x6), (7, .int x7)] := hl
              refine lv_goto (tgt := 260) hx hb d_Model_command_284 rfl ?_
              refine lv_iload hx hb d_Model_command_260 (lv_at hl 0 rfl) ?_
              refine lv_bipush (v := 8) hx hb d_Model_command_262 rfl ?_
              refine lv_icmp_ge (tgt := 287) hx hb d_Model_command_264 rfl (fun h9 => absurd h9 (by decide)) (fun _ => ?_)
              refine lv_iload hx hb d_Model_command_267 (lv_at hl 1 rfl) ?_
              refine lv_aload_n hx hb d_Model_command_269 rfl (lv_at hl 4 rfl) ?_
              refine va_get (D := D) (ci := 7) (v := .ref a_dr) (C := R_Model) (T := F_Model) (N := 28) hx hb hts hin_Model hown hK hP 0 rfl rfl 27 (by decide) (hts _ (xm ww_560)) (fun _ h9 => h9) rfl d_Model_command_270 ?_
              refine lv_iload hx hb d_Model_command_273 (lv_at hl 0 rfl) ?_
              refine xiald (k := 6) hx hb hK hP 1 0 rfl rfl rfl (by decide) (by decide) d_Model_command_275 ?_
              refine xcall_i (wc := []) (wr := [(h0, .inr (7, [.int tg, .ref a_st, .ref a_ck, .ref a_en, .ref a_au, .ref a_he, .ref a_qu, .ref a_lo, .ref a_ow, .ref a_fl, .ref a_ti, .ref a_gd, .ref a_ak, .ref a_sp, .ref a_se, .ref a_sd, .ref a_rw, .ref a_sz, .ref a_op, .ref a_th, .ref a_me, .ref a_pk, .int (nI kc), .int cm, .int su, .ref a_re, .int (nI kq), .ref a_dr])), (a_dr, .inl (cI, 40, .inl dr1)), (a_th, .inl (cZ, 2, .inl th)), (a_rw, .inl (cI, 256, .inl rw)), (a_sz, .inl (cI, 4, .inl (szf Ls)))]) (ws1 := fun (u : Unit) => [(h0, .inr (7, [.int tg, .ref a_st, .ref a_ck, .ref a_en, .ref a_au, .ref a_he, .ref a_qu, .ref a_lo, .ref a_ow, .ref a_fl, .ref a_ti, .ref a_gd, .ref a_ak, .ref a_sp, .ref a_se, .ref a_sd, .ref a_rw, .ref a_sz, .ref a_op, .ref a_th, .ref a_me, .ref a_pk, .int (nI kc), .int cm, .int su, .ref a_re, .int (nI kq), .ref a_dr])), (a_dr, .inl (cI, 40, .inl dr1)), (a_th, .inl (cZ, 2, .inl th)), (a_rw, .inl (cI, 256, .inl rw)), (a_sz, .inl (cI, 4, .inl (szf Ls)))]) (va_runS (As := [.int cx49, .int (dr1 6)]) (rest := []) ⟨hx, hb, hml, hown, hts⟩ (c_Model_mixed cx49 (dr1 6) H.size) (xcwS 2 hts ww_673 ww_671 ww_672 ww_8 (by decide +kernel) rfl rfl ⟨Nat.le_of_ble_eq_true rfl, Nat.le_of_ble_eq_true rfl⟩) (xPreS (hP.sub [] rfl) (hD.sub [] (by decide) rfl) hK hN) rfl rfl hl.1 rfl (lv_room (Nat.le_of_ble_eq_true rfl)) d_Model_command_276 ⟨Nat.le_of_ble_eq_true rfl, Nat.le_of_ble_eq_true rfl⟩) hP hD hS hA [] [0, 1, 2, 3, 4] [0, 1, 2, 3, 4] rfl rfl (by decide) (by decide) (by decide) (fun _ => rfl) (fun r50 u50 H locs hw hP hD hS => ?_)
              refine xtop hw ?_
              replace hP : va_P D vwCl [(h0, .inr (7, [.int tg, .ref a_st, .ref a_ck, .ref a_en, .ref a_au, .ref a_he, .ref a_qu, .ref a_lo, .ref a_ow, .ref a_fl, .ref a_ti, .ref a_gd, .ref a_ak, .ref a_sp, .ref a_se, .ref a_sd, .ref a_rw, .ref a_sz, .ref a_op, .ref a_th, .ref a_me, .ref a_pk, .int (nI kc), .int cm, .int su, .ref a_re, .int (nI kq), .ref a_dr])), (a_dr, .inl (cI, 40, .inl dr1)), (a_th, .inl (cZ, 2, .inl th)), (a_rw, .inl (cI, 256, .inl rw)), (a_sz, .inl (cI, 4, .inl (szf Ls)))] H := hP
              replace hD : va_D A [(h0, .inr (7, [.int tg, .ref a_st, .ref a_ck, .ref a_en, .ref a_au, .ref a_he, .ref a_qu, .ref a_lo, .ref a_ow, .ref a_fl, .ref a_ti, .ref a_gd, .ref a_ak, .ref a_sp, .ref a_se, .ref a_sd, .ref a_rw, .ref a_sz, .ref a_op, .ref a_th, .ref a_me, .ref a_pk, .int (nI kc), .int cm, .int su, .ref a_re, .int (nI kq), .ref a_dr])), (a_dr, .inl (cI, 40, .inl dr1)), (a_th, .inl (cZ, 2, .inl th)), (a_rw, .inl (cI, 256, .inl rw)), (a_sz, .inl (cI, 4, .inl (szf Ls)))] := hD
              refine lv_topi (fun cx51 hcx51 => ?_)
              replace hq := hq.trans (bnd_eq hcx51)
              try dsimp only at hq
              refine lv_istore hx hb d_Model_command_279 hl (by decide) rfl (fun ls hl => ?_)
              replace hl : lv_has ls 12 [(10, .int cx51), (11, .int 6), (9, .int (nI n3)), (8, .int y16), (0, .ref h0), (1, .int x1), (2, .int x2), (3, .int x3), (4, .int x4), (5, .int (nI ln)), (6, .int x6), (7, .int x7)] := hl
              refine lv_iinc (k := 1) (v := 7) hx hb d_Model_command_281 hl rfl rfl (by decide) rfl (fun ls hl => ?_)
              replace hl : lv_has ls 12 [(11, .int 7), (10, .int cx51), (9, .int (nI n3)), (8, .int y16), (0, .ref h0), (1, .int x1), (2, .int x2), (3, .int x3), (4, .int x4), (5, .int (nI ln)), (6, .int x6), (7, .int x7)] := hl
              refine lv_goto (tgt := 260) hx hb d_Model_command_284 rfl ?_
              refine lv_iload hx hb d_Model_command_260 (lv_at hl 0 rfl) ?_
              refine lv_bipush (v := 8) hx hb d_Model_command_262 rfl ?_
              refine lv_icmp_ge (tgt := 287) hx hb d_Model_command_264 rfl (fun h9 => absurd h9 (by decide)) (fun _ => ?_)
              refine lv_iload hx hb d_Model_command_267 (lv_at hl 1 rfl) ?_
              refine lv_aload_n hx hb d_Model_command_269 rfl (lv_at hl 4 rfl) ?_
              refine va_get (D := D) (ci := 7) (v := .ref a_dr) (C := R_Model) (T := F_Model) (N := 28) hx hb hts hin_Model hown hK hP 0 rfl rfl 27 (by decide) (hts _ (xm ww_560)) (fun _ h9 => h9) rfl d_Model_command_270 ?_
              refine lv_iload hx hb d_Model_command_273 (lv_at hl 0 rfl) ?_
              refine xiald (k := 7) hx hb hK hP 1 0 rfl rfl rfl (by decide) (by decide) d_Model_command_275 ?_
              refine xcall_i (wc := []) (wr := [(h0, .inr (7, [.int tg, .ref a_st, .ref a_ck, .ref a_en, .ref a_au, .ref a_he, .ref a_qu, .ref a_lo, .ref a_ow, .ref a_fl, .ref a_ti, .ref a_gd, .ref a_ak, .ref a_sp, .ref a_se, .ref a_sd, .ref a_rw, .ref a_sz, .ref a_op, .ref a_th, .ref a_me, .ref a_pk, .int (nI kc), .int cm, .int su, .ref a_re, .int (nI kq), .ref a_dr])), (a_dr, .inl (cI, 40, .inl dr1)), (a_th, .inl (cZ, 2, .inl th)), (a_rw, .inl (cI, 256, .inl rw)), (a_sz, .inl (cI, 4, .inl (szf Ls)))]) (ws1 := fun (u : Unit) => [(h0, .inr (7, [.int tg, .ref a_st, .ref a_ck, .ref a_en, .ref a_au, .ref a_he, .ref a_qu, .ref a_lo, .ref a_ow, .ref a_fl, .ref a_ti, .ref a_gd, .ref a_ak, .ref a_sp, .ref a_se, .ref a_sd, .ref a_rw, .ref a_sz, .ref a_op, .ref a_th, .ref a_me, .ref a_pk, .int (nI kc), .int cm, .int su, .ref a_re, .int (nI kq), .ref a_dr])), (a_dr, .inl (cI, 40, .inl dr1)), (a_th, .inl (cZ, 2, .inl th)), (a_rw, .inl (cI, 256, .inl rw)), (a_sz, .inl (cI, 4, .inl (szf Ls)))]) (va_runS (As := [.int cx51, .int (dr1 7)]) (rest := []) ⟨hx, hb, hml, hown, hts⟩ (c_Model_mixed cx51 (dr1 7) H.size) (xcwS 2 hts ww_673 ww_671 ww_672 ww_8 (by decide +kernel) rfl rfl ⟨Nat.le_of_ble_eq_true rfl, Nat.le_of_ble_eq_true rfl⟩) (xPreS (hP.sub [] rfl) (hD.sub [] (by decide) rfl) hK hN) rfl rfl hl.1 rfl (lv_room (Nat.le_of_ble_eq_true rfl)) d_Model_command_276 ⟨Nat.le_of_ble_eq_true rfl, Nat.le_of_ble_eq_true rfl⟩) hP hD hS hA [] [0, 1, 2, 3, 4] [0, 1, 2, 3, 4] rfl rfl (by decide) (by decide) (by decide) (fun _ => rfl) (fun r52 u52 H locs hw hP hD hS => ?_)
              refine xtop hw ?_
              replace hP : va_P D vwCl [(h0, .inr (7, [.int tg, .ref a_st, .ref a_ck, .ref a_en, .ref a_au, .ref a_he, .ref a_qu, .ref a_lo, .ref a_ow, .ref a_fl, .ref a_ti, .ref a_gd, .ref a_ak, .ref a_sp, .ref a_se, .ref a_sd, .ref a_rw, .ref a_sz, .ref a_op, .ref a_th, .ref a_me, .ref a_pk, .int (nI kc), .int cm, .int su, .ref a_re, .int (nI kq), .ref a_dr])), (a_dr, .inl (cI, 40, .inl dr1)), (a_th, .inl (cZ, 2, .inl th)), (a_rw, .inl (cI, 256, .inl rw)), (a_sz, .inl (cI, 4, .inl (szf Ls)))] H := hP
              replace hD : va_D A [(h0, .inr (7, [.int tg, .ref a_st, .ref a_ck, .ref a_en, .ref a_au, .ref a_he, .ref a_qu, .ref a_lo, .ref a_ow, .ref a_fl, .ref a_ti, .ref a_gd, .ref a_ak, .ref a_sp, .ref a_se, .ref a_sd, .ref a_rw, .ref a_sz, .ref a_op, .ref a_th, .ref a_me, .ref a_pk, .int (nI kc), .int cm, .int su, .ref a_re, .int (nI kq), .ref a_dr])), (a_dr, .inl (cI, 40, .inl dr1)), (a_th, .inl (cZ, 2, .inl th)), (a_rw, .inl (cI, 256, .inl rw)), (a_sz, .inl (cI, 4, .inl (szf Ls)))] := hD
              refine lv_topi (fun cx53 hcx53 => ?_)
              replace hq := hq.trans (bnd_eq hcx53)
              try dsimp only at hq
              refine lv_istore hx hb d_Model_command_279 hl (by decide) rfl (fun ls hl => ?_)
              replace hl : lv_has ls 12 [(10, .int cx53), (11, .int 7), (9, .int (nI n3)), (8, .int y16), (0, .ref h0), (1, .int x1), (2, .int x2), (3, .int x3), (4, .int x4), (5, .int (nI ln)), (6, .int x6), (7, .int x7)] := hl
              refine lv_iinc (k := 1) (v := 8) hx hb d_Model_command_281 hl rfl rfl (by decide) rfl (fun ls hl => ?_)
              replace hl : lv_has ls 12 [(11, .int 8), (10, .int cx53), (9, .int (nI n3)), (8, .int y16), (0, .ref h0), (1, .int x1), (2, .int x2), (3, .int x3), (4, .int x4), (5, .int (nI ln)), (6, .int x6), (7, .int x7)] := hl
              refine lv_goto (tgt := 260) hx hb d_Model_command_284 rfl ?_
              refine lv_iload hx hb d_Model_command_260 (lv_at hl 0 rfl) ?_
              refine lv_bipush (v := 8) hx hb d_Model_command_262 rfl ?_
              refine lv_icmp_ge (tgt := 287) hx hb d_Model_command_264 rfl (fun _ => ?_) (fun h9 => absurd h9 (by decide))
              refine lv_aload_n hx hb d_Model_command_287 rfl (lv_at hl 4 rfl) ?_
              refine va_get (D := D) (ci := 7) (v := .ref a_dr) (C := R_Model) (T := F_Model) (N := 28) hx hb hts hin_Model hown hK hP 0 rfl rfl 27 (by decide) (hts _ (xm ww_560)) (fun _ h9 => h9) rfl d_Model_command_288 ?_
              refine lv_bipush (v := 8) hx hb d_Model_command_291 rfl ?_
              refine lv_iload hx hb d_Model_command_293 (lv_at hl 11 rfl) ?_
              refine lv_iconst (v := 2) hx hb d_Model_command_295 rfl ?_
              refine lv_irem hx hb d_Model_command_296 (by decide) ?_
              refine lv_iconst (v := 1) hx hb d_Model_command_297 rfl ?_
              have J54 : ∀ (y55 : Int32) (H : Heap) (locs : List Loc), y55 = (if (x7 - x7 / 2 * 2) = 1 then (cx53 ^^^ 1) else (cx53)) → va_P D vwCl [(h0, .inr (7, [.int tg, .ref a_st, .ref a_ck, .ref a_en, .ref a_au, .ref a_he, .ref a_qu, .ref a_lo, .ref a_ow, .ref a_fl, .ref a_ti, .ref a_gd, .ref a_ak, .ref a_sp, .ref a_se, .ref a_sd, .ref a_rw, .ref a_sz, .ref a_op, .ref a_th, .ref a_me, .ref a_pk, .int (nI kc), .int cm, .int su, .ref a_re, .int (nI kq), .ref a_dr])), (a_dr, .inl (cI, 40, .inl dr1)), (a_th, .inl (cZ, 2, .inl th)), (a_rw, .inl (cI, 256, .inl rw)), (a_sz, .inl (cI, 4, .inl (szf Ls)))] H → va_D A [(h0, .inr (7, [.int tg, .ref a_st, .ref a_ck, .ref a_en, .ref a_au, .ref a_he, .ref a_qu, .ref a_lo, .ref a_ow, .ref a_fl, .ref a_ti, .ref a_gd, .ref a_ak, .ref a_sp, .ref a_se, .ref a_sd, .ref a_rw, .ref a_sz, .ref a_op, .ref a_th, .ref a_me, .ref a_pk, .int (nI kc), .int cm, .int su, .ref a_re, .int (nI kq), .ref a_dr])), (a_dr, .inl (cI, 40, .inl dr1)), (a_th, .inl (cZ, 2, .inl th)), (a_rw, .inl (cI, 256, .inl rw)), (a_sz, .inl (cI, 4, .inl (szf Ls)))] → va_S A s.heap H locs → W p l e rm_Model_command s m args below meth c H locs 0 0 Q (F0 m 310 ls [.int y55, .int 8, .ref a_dr]) := by
                intro y55 H locs hy55 hP hD hS
                replace hq := hq.trans (bnd_eq hy55)
                try dsimp only at hq
                refine xiast (k := 8) hx hb hK hP hD hS 1 0 rfl rfl rfl (by decide) (by decide) d_Model_command_310 (fun H locs hP hD hS => ?_)
                replace hP : va_P D vwCl [(h0, .inr (7, [.int tg, .ref a_st, .ref a_ck, .ref a_en, .ref a_au, .ref a_he, .ref a_qu, .ref a_lo, .ref a_ow, .ref a_fl, .ref a_ti, .ref a_gd, .ref a_ak, .ref a_sp, .ref a_se, .ref a_sd, .ref a_rw, .ref a_sz, .ref a_op, .ref a_th, .ref a_me, .ref a_pk, .int (nI kc), .int cm, .int su, .ref a_re, .int (nI kq), .ref a_dr])), (a_dr, .inl (cI, 40, .inl (upd dr1 8 y55))), (a_th, .inl (cZ, 2, .inl th)), (a_rw, .inl (cI, 256, .inl rw)), (a_sz, .inl (cI, 4, .inl (szf Ls)))] H := hP
                replace hD : va_D A [(h0, .inr (7, [.int tg, .ref a_st, .ref a_ck, .ref a_en, .ref a_au, .ref a_he, .ref a_qu, .ref a_lo, .ref a_ow, .ref a_fl, .ref a_ti, .ref a_gd, .ref a_ak, .ref a_sp, .ref a_se, .ref a_sd, .ref a_rw, .ref a_sz, .ref a_op, .ref a_th, .ref a_me, .ref a_pk, .int (nI kc), .int cm, .int su, .ref a_re, .int (nI kq), .ref a_dr])), (a_dr, .inl (cI, 40, .inl (upd dr1 8 y55))), (a_th, .inl (cZ, 2, .inl th)), (a_rw, .inl (cI, 256, .inl rw)), (a_sz, .inl (cI, 4, .inl (szf Ls)))] := hD
                obtain ⟨dr2, hdr2⟩ : ∃ z, z = (upd dr1 8 y55) := ⟨_, rfl⟩
                rw [← hdr2] at hP hD
                replace hP : va_P D vwCl [(h0, .inr (7, [.int tg, .ref a_st, .ref a_ck, .ref a_en, .ref a_au, .ref a_he, .ref a_qu, .ref a_lo, .ref a_ow, .ref a_fl, .ref a_ti, .ref a_gd, .ref a_ak, .ref a_sp, .ref a_se, .ref a_sd, .ref a_rw, .ref a_sz, .ref a_op, .ref a_th, .ref a_me, .ref a_pk, .int (nI kc), .int cm, .int su, .ref a_re, .int (nI kq), .ref a_dr])), (a_dr, .inl (cI, 40, .inl dr2)), (a_th, .inl (cZ, 2, .inl th)), (a_rw, .inl (cI, 256, .inl rw)), (a_sz, .inl (cI, 4, .inl (szf Ls)))] H := hP
                replace hD : va_D A [(h0, .inr (7, [.int tg, .ref a_st, .ref a_ck, .ref a_en, .ref a_au, .ref a_he, .ref a_qu, .ref a_lo, .ref a_ow, .ref a_fl, .ref a_ti, .ref a_gd, .ref a_ak, .ref a_sp, .ref a_se, .ref a_sd, .ref a_rw, .ref a_sz, .ref a_op, .ref a_th, .ref a_me, .ref a_pk, .int (nI kc), .int cm, .int su, .ref a_re, .int (nI kq), .ref a_dr])), (a_dr, .inl (cI, 40, .inl dr2)), (a_th, .inl (cZ, 2, .inl th)), (a_rw, .inl (cI, 256, .inl rw)), (a_sz, .inl (cI, 4, .inl (szf Ls)))] := hD
                replace hq := hq.trans (bnd_eq hdr2)
                try dsimp only at hq
                refine lv_iconst (v := 0) hx hb d_Model_command_311 rfl ?_
                refine lv_istore hx hb d_Model_command_312 hl (by decide) rfl (fun ls hl => ?_)
                replace hl : lv_has ls 12 [(10, .int 0), (11, .int 8), (9, .int (nI n3)), (8, .int y16), (0, .ref h0), (1, .int x1), (2, .int x2), (3, .int x3), (4, .int x4), (5, .int (nI ln)), (6, .int x6), (7, .int x7)] := hl
                refine lv_iconst (v := 0) hx hb d_Model_command_314 rfl ?_
                refine lv_istore hx hb d_Model_command_315 hl (by decide) rfl (fun ls hl => ?_)
                replace hl : lv_has ls 12 [(11, .int 0), (10, .int 0), (9, .int (nI n3)), (8, .int y16), (0, .ref h0), (1, .int x1), (2, .int x2), (3, .int x3), (4, .int x4), (5, .int (nI ln)), (6, .int x6), (7, .int x7)] := hl
                have LPlp_mcom : ∀ (nlp_mcom : Nat) (j : Nat) (xc : Int32) (dr3 : Nat → Int32) (ls : Array Slot) (H : Heap) (locs : List Loc), (j ≤ ln) → ln - j ≤ nlp_mcom → lv_has ls 12 [(11, .int (nI j)), (10, .int xc), (9, .int (nI n3)), (8, .int y16), (0, .ref h0), (1, .int x1), (2, .int x2), (3, .int x3), (4, .int x4), (5, .int (nI ln)), (6, .int x6), (7, .int x7)] → va_P D vwCl [(h0, .inr (7, [.int tg, .ref a_st, .ref a_ck, .ref a_en, .ref a_au, .ref a_he, .ref a_qu, .ref a_lo, .ref a_ow, .ref a_fl, .ref a_ti, .ref a_gd, .ref a_ak, .ref a_sp, .ref a_se, .ref a_sd, .ref a_rw, .ref a_sz, .ref a_op, .ref a_th, .ref a_me, .ref a_pk, .int (nI kc), .int cm, .int su, .ref a_re, .int (nI kq), .ref a_dr])), (a_dr, .inl (cI, 40, .inl dr3)), (a_th, .inl (cZ, 2, .inl th)), (a_rw, .inl (cI, 256, .inl rw)), (a_sz, .inl (cI, 4, .inl (szf Ls)))] H → va_D A [(h0, .inr (7, [.int tg, .ref a_st, .ref a_ck, .ref a_en, .ref a_au, .ref a_he, .ref a_qu, .ref a_lo, .ref a_ow, .ref a_fl, .ref a_ti, .ref a_gd, .ref a_ak, .ref a_sp, .ref a_se, .ref a_sd, .ref a_rw, .ref a_sz, .ref a_op, .ref a_th, .ref a_me, .ref a_pk, .int (nI kc), .int cm, .int su, .ref a_re, .int (nI kq), .ref a_dr])), (a_dr, .inl (cI, 40, .inl dr3)), (a_th, .inl (cZ, 2, .inl th)), (a_rw, .inl (cI, 256, .inl rw)), (a_sz, .inl (cI, 4, .inl (szf Ls)))] → va_S A s.heap H locs → s_Model_command dr th Ls x1 x2 x3 x4 x5 x6 x7 = lp_mcom th Ls x6 x7 ln y16 n3 nlp_mcom j xc dr3 → W p l e rm_Model_command s m args below meth c H locs 0 0 Q (F0 m 317 ls []) := by
                  intro nlp_mcom
                  induction nlp_mcom with
                  | zero =>
                    intro j xc dr3 ls H locs hj hmlp_mcom hl hP hD hS hq
                    replace hq : s_Model_command dr th Ls x1 x2 x3 x4 x5 x6 x7 = (s_Model_command_365 th Ls x7 ln y16 n3 xc dr3) := hq
                    refine lv_iload hx hb d_Model_command_317 (lv_at hl 0 rfl) ?_
                    refine lv_iload hx hb d_Model_command_319 (lv_at hl 9 rfl) ?_
                    refine lv_icmp_ge (tgt := 365) hx hb d_Model_command_321 rfl (fun h56 => ?_) (fun h56 => ?_)
                    rotate_left
                    · exact absurd (nI_le (by omega) (by omega)) h56
                    exact Cs_Model_command_365 xc dr3 _ _ _  (lv_sub hl [2, 3, 4, 5, 6, 7, 8, 9, 10, 11, 1] rfl) hP hD hS hq
                  | succ nlp_mcom ihlp_mcom =>
                    intro j xc dr3 ls H locs hj hmlp_mcom hl hP hD hS hq
                    replace hq : s_Model_command dr th Ls x1 x2 x3 x4 x5 x6 x7 = (if (nI ln) ≤ (nI j) then (s_Model_command_365 th Ls x7 ln y16 n3 xc dr3) else (lp_mcom th Ls x6 x7 ln y16 n3 nlp_mcom (j + 1) (s_Model_mixed xc ((x6 + (nI j)) - (x6 + (nI j)) / 256 * 256)) (upd dr3 (9 + j) ((x6 + (nI j)) - (x6 + (nI j)) / 256 * 256)))) := hq
                    refine lv_iload hx hb d_Model_command_317 (lv_at hl 0 rfl) ?_
                    refine lv_iload hx hb d_Model_command_319 (lv_at hl 9 rfl) ?_
                    refine lv_icmp_ge (tgt := 365) hx hb d_Model_command_321 rfl (fun h57 => ?_) (fun h57 => ?_)
                    · replace hq := hq.trans (if_pos h57)
                      exact Cs_Model_command_365 xc dr3 _ _ _  (lv_sub hl [2, 3, 4, 5, 6, 7, 8, 9, 10, 11, 1] rfl) hP hD hS hq
                    replace hq := hq.trans (if_neg h57)
                    have hjl : j < ln := Nat.lt_of_not_le fun h9 => h57 (nI_le h9 (by omega))
                    refine lv_aload_n hx hb d_Model_command_324 rfl (lv_at hl 4 rfl) ?_
                    refine va_get (D := D) (ci := 7) (v := .ref a_dr) (C := R_Model) (T := F_Model) (N := 28) hx hb hts hin_Model hown hK hP 0 rfl rfl 27 (by decide) (hts _ (xm ww_560)) (fun _ h9 => h9) rfl d_Model_command_325 ?_
                    refine lv_bipush (v := 9) hx hb d_Model_command_328 rfl ?_
                    refine lv_iload hx hb d_Model_command_330 (lv_at hl 0 rfl) ?_
                    refine lv_iadd hx hb d_Model_command_332 ?_
                    refine xtop (y := nI (9 + j)) (nI_add 9 j) ?_
                    refine lv_iload hx hb d_Model_command_333 (lv_at hl 10 rfl) ?_
                    refine lv_iload hx hb d_Model_command_335 (lv_at hl 0 rfl) ?_
                    refine lv_iadd hx hb d_Model_command_337 ?_
                    refine lv_sipush (v := 256) hx hb d_Model_command_338 rfl ?_
                    refine lv_irem hx hb d_Model_command_341 (by decide) ?_
                    refine xiast (k := (9 + j)) hx hb hK hP hD hS 1 0 rfl rfl rfl (by omega) (by decide) d_Model_command_342 (fun H locs hP hD hS => ?_)
                    replace hP : va_P D vwCl [(h0, .inr (7, [.int tg, .ref a_st, .ref a_ck, .ref a_en, .ref a_au, .ref a_he, .ref a_qu, .ref a_lo, .ref a_ow, .ref a_fl, .ref a_ti, .ref a_gd, .ref a_ak, .ref a_sp, .ref a_se, .ref a_sd, .ref a_rw, .ref a_sz, .ref a_op, .ref a_th, .ref a_me, .ref a_pk, .int (nI kc), .int cm, .int su, .ref a_re, .int (nI kq), .ref a_dr])), (a_dr, .inl (cI, 40, .inl (upd dr3 (9 + j) ((x6 + (nI j)) - (x6 + (nI j)) / 256 * 256)))), (a_th, .inl (cZ, 2, .inl th)), (a_rw, .inl (cI, 256, .inl rw)), (a_sz, .inl (cI, 4, .inl (szf Ls)))] H := hP
                    replace hD : va_D A [(h0, .inr (7, [.int tg, .ref a_st, .ref a_ck, .ref a_en, .ref a_au, .ref a_he, .ref a_qu, .ref a_lo, .ref a_ow, .ref a_fl, .ref a_ti, .ref a_gd, .ref a_ak, .ref a_sp, .ref a_se, .ref a_sd, .ref a_rw, .ref a_sz, .ref a_op, .ref a_th, .ref a_me, .ref a_pk, .int (nI kc), .int cm, .int su, .ref a_re, .int (nI kq), .ref a_dr])), (a_dr, .inl (cI, 40, .inl (upd dr3 (9 + j) ((x6 + (nI j)) - (x6 + (nI j)) / 256 * 256)))), (a_th, .inl (cZ, 2, .inl th)), (a_rw, .inl (cI, 256, .inl rw)), (a_sz, .inl (cI, 4, .inl (szf Ls)))] := hD
                    refine lv_iload hx hb d_Model_command_343 (lv_at hl 1 rfl) ?_
                    refine lv_iload hx hb d_Model_command_345 (lv_at hl 10 rfl) ?_
                    refine lv_iload hx hb d_Model_command_347 (lv_at hl 0 rfl) ?_
                    refine lv_iadd hx hb d_Model_command_349 ?_
                    refine lv_sipush (v := 256) hx hb d_Model_command_350 rfl ?_
                    refine lv_irem hx hb d_Model_command_353 (by decide) ?_
                    refine xcall_i (wc := []) (wr := [(h0, .inr (7, [.int tg, .ref a_st, .ref a_ck, .ref a_en, .ref a_au, .ref a_he, .ref a_qu, .ref a_lo, .ref a_ow, .ref a_fl, .ref a_ti, .ref a_gd, .ref a_ak, .ref a_sp, .ref a_se, .ref a_sd, .ref a_rw, .ref a_sz, .ref a_op, .ref a_th, .ref a_me, .ref a_pk, .int (nI kc), .int cm, .int su, .ref a_re, .int (nI kq), .ref a_dr])), (a_dr, .inl (cI, 40, .inl (upd dr3 (9 + j) ((x6 + (nI j)) - (x6 + (nI j)) / 256 * 256)))), (a_th, .inl (cZ, 2, .inl th)), (a_rw, .inl (cI, 256, .inl rw)), (a_sz, .inl (cI, 4, .inl (szf Ls)))]) (ws1 := fun (u : Unit) => [(h0, .inr (7, [.int tg, .ref a_st, .ref a_ck, .ref a_en, .ref a_au, .ref a_he, .ref a_qu, .ref a_lo, .ref a_ow, .ref a_fl, .ref a_ti, .ref a_gd, .ref a_ak, .ref a_sp, .ref a_se, .ref a_sd, .ref a_rw, .ref a_sz, .ref a_op, .ref a_th, .ref a_me, .ref a_pk, .int (nI kc), .int cm, .int su, .ref a_re, .int (nI kq), .ref a_dr])), (a_dr, .inl (cI, 40, .inl (upd dr3 (9 + j) ((x6 + (nI j)) - (x6 + (nI j)) / 256 * 256)))), (a_th, .inl (cZ, 2, .inl th)), (a_rw, .inl (cI, 256, .inl rw)), (a_sz, .inl (cI, 4, .inl (szf Ls)))]) (va_runS (As := [.int xc, .int ((x6 + (nI j)) - (x6 + (nI j)) / 256 * 256)]) (rest := []) ⟨hx, hb, hml, hown, hts⟩ (c_Model_mixed xc ((x6 + (nI j)) - (x6 + (nI j)) / 256 * 256) H.size) (xcwS 2 hts ww_673 ww_671 ww_672 ww_8 (by decide +kernel) rfl rfl ⟨Nat.le_of_ble_eq_true rfl, Nat.le_of_ble_eq_true rfl⟩) (xPreS (hP.sub [] rfl) (hD.sub [] (by decide) rfl) hK hN) rfl rfl hl.1 rfl (lv_room (Nat.le_of_ble_eq_true rfl)) d_Model_command_354 ⟨Nat.le_of_ble_eq_true rfl, Nat.le_of_ble_eq_true rfl⟩) hP hD hS hA [] [0, 1, 2, 3, 4] [0, 1, 2, 3, 4] rfl rfl (by decide) (by decide) (by decide) (fun _ => rfl) (fun r58 u58 H locs hw hP hD hS => ?_)
                    refine xtop hw ?_
                    replace hP : va_P D vwCl [(h0, .inr (7, [.int tg, .ref a_st, .ref a_ck, .ref a_en, .ref a_au, .ref a_he, .ref a_qu, .ref a_lo, .ref a_ow, .ref a_fl, .ref a_ti, .ref a_gd, .ref a_ak, .ref a_sp, .ref a_se, .ref a_sd, .ref a_rw, .ref a_sz, .ref a_op, .ref a_th, .ref a_me, .ref a_pk, .int (nI kc), .int cm, .int su, .ref a_re, .int (nI kq), .ref a_dr])), (a_dr, .inl (cI, 40, .inl (upd dr3 (9 + j) ((x6 + (nI j)) - (x6 + (nI j)) / 256 * 256)))), (a_th, .inl (cZ, 2, .inl th)), (a_rw, .inl (cI, 256, .inl rw)), (a_sz, .inl (cI, 4, .inl (szf Ls)))] H := hP
                    replace hD : va_D A [(h0, .inr (7, [.int tg, .ref a_st, .ref a_ck, .ref a_en, .ref a_au, .ref a_he, .ref a_qu, .ref a_lo, .ref a_ow, .ref a_fl, .ref a_ti, .ref a_gd, .ref a_ak, .ref a_sp, .ref a_se, .ref a_sd, .ref a_rw, .ref a_sz, .ref a_op, .ref a_th, .ref a_me, .ref a_pk, .int (nI kc), .int cm, .int su, .ref a_re, .int (nI kq), .ref a_dr])), (a_dr, .inl (cI, 40, .inl (upd dr3 (9 + j) ((x6 + (nI j)) - (x6 + (nI j)) / 256 * 256)))), (a_th, .inl (cZ, 2, .inl th)), (a_rw, .inl (cI, 256, .inl rw)), (a_sz, .inl (cI, 4, .inl (szf Ls)))] := hD
                    refine lv_istore hx hb d_Model_command_357 hl (by decide) rfl (fun ls hl => ?_)
                    replace hl : lv_has ls 12 [(10, .int (s_Model_mixed xc ((x6 + (nI j)) - (x6 + (nI j)) / 256 * 256))), (11, .int (nI j)), (9, .int (nI n3)), (8, .int y16), (0, .ref h0), (1, .int x1), (2, .int x2), (3, .int x3), (4, .int x4), (5, .int (nI ln)), (6, .int x6), (7, .int x7)] := hl
                    refine lv_iinc (k := 1) (v := nI (j + 1)) hx hb d_Model_command_359 hl rfl (nI_1 j) (by decide) rfl (fun ls hl => ?_)
                    replace hl : lv_has ls 12 [(11, .int (nI (j + 1))), (10, .int (s_Model_mixed xc ((x6 + (nI j)) - (x6 + (nI j)) / 256 * 256))), (9, .int (nI n3)), (8, .int y16), (0, .ref h0), (1, .int x1), (2, .int x2), (3, .int x3), (4, .int x4), (5, .int (nI ln)), (6, .int x6), (7, .int x7)] := hl
                    refine lv_goto (tgt := 317) hx hb d_Model_command_362 rfl ?_
                    exact ihlp_mcom (j + 1) (s_Model_mixed xc ((x6 + (nI j)) - (x6 + (nI j)) / 256 * 256)) (upd dr3 (9 + j) ((x6 + (nI j)) - (x6 + (nI j)) / 256 * 256)) _ _ _ (Nat.lt_of_not_le fun h9 => h57 (nI_le h9 (by omega))) (by omega) (lv_sub hl [0, 1, 2, 3, 4, 5, 6, 7, 8, 9, 10, 11] rfl) hP hD hS hq
                exact LPlp_mcom (ln - 0) 0 0 dr2 _ _ _ (by omega) (Nat.le_refl _) (lv_sub hl [0, 1, 2, 3, 4, 5, 6, 7, 8, 9, 10, 11] rfl) hP hD hS hq
              have hv : ((if (x7 - x7 / 2 * 2) = 1 then (cx53 ^^^ 1) else (cx53)) : Int32) = (if (x7 - x7 / 2 * 2) = 1 then (cx53 ^^^ 1) else (cx53)) := rfl
              refine lv_icmp_ne (tgt := 308) hx hb d_Model_command_298 rfl (fun h59 => ?_) (fun h59 => ?_)
              · replace hv := hv.trans (if_neg h59)
                refine lv_iload hx hb d_Model_command_308 (lv_at hl 1 rfl) ?_
                exact J54 _ _ _ hv.symm hP hD hS
              replace hv := hv.trans (if_pos h59)
              refine lv_iload hx hb d_Model_command_301 (lv_at hl 1 rfl) ?_
              refine lv_iconst (v := 1) hx hb d_Model_command_303 rfl ?_
              refine lv_ixor hx hb d_Model_command_304 ?_
              refine lv_goto (tgt := 310) hx hb d_Model_command_305 rfl ?_
              exact J54 _ _ _ hv.symm hP hD hS
            replace hq := hq.trans (if_neg h24)
            refine lv_bipush (v := (-2)) hx hb d_Model_command_181 rfl ?_
            exact hret (-2) (dr, th, Ls, rw) ⟨hq.symm, hM⟩ _ _ _ _ hP hD hS d_Model_command_183
          have hv : ((if y16 = 0 then (nI n2) else (if ((x7 / 8) - (x7 / 8) / 2 * 2) = 1 then (nI (n2 + 1)) else (nI n2))) : Int32) = (if y16 = 0 then (nI n2) else (if ((x7 / 8) - (x7 / 8) / 2 * 2) = 1 then (nI (n2 + 1)) else (nI n2))) := rfl
          refine lv_if_eq (tgt := 154) hx hb d_Model_command_133 rfl (fun h60 => ?_) (fun h60 => ?_)
          · replace hv := hv.trans (if_pos h60)
            refine lv_iload hx hb d_Model_command_154 (lv_at hl 0 rfl) ?_
            exact J21 _ _ _ hv.symm hP hD hS
          replace hv := hv.trans (if_neg h60)
          refine lv_iload hx hb d_Model_command_136 (lv_at hl 9 rfl) ?_
          refine lv_bipush (v := 8) hx hb d_Model_command_138 rfl ?_
          refine lv_idiv hx hb d_Model_command_140 (by decide) ?_
          refine lv_iconst (v := 2) hx hb d_Model_command_141 rfl ?_
          refine lv_irem hx hb d_Model_command_142 (by decide) ?_
          refine lv_iconst (v := 1) hx hb d_Model_command_143 rfl ?_
          refine lv_icmp_ne (tgt := 154) hx hb d_Model_command_144 rfl (fun h61 => ?_) (fun h61 => ?_)
          · replace hv := hv.trans (if_neg h61)
            refine lv_iload hx hb d_Model_command_154 (lv_at hl 0 rfl) ?_
            exact J21 _ _ _ hv.symm hP hD hS
          replace hv := hv.trans (if_pos h61)
          refine lv_iload hx hb d_Model_command_147 (lv_at hl 0 rfl) ?_
          refine lv_iconst (v := 1) hx hb d_Model_command_149 rfl ?_
          refine lv_iadd hx hb d_Model_command_150 ?_
          refine xtop (y := nI (n2 + 1)) (nI_add n2 1) ?_
          refine lv_goto (tgt := 156) hx hb d_Model_command_151 rfl ?_
          exact J21 _ _ _ hv.symm hP hD hS
        have hv : ((if y16 = 0 then (nI (10 + n1)) else (if ((x7 / 4) - (x7 / 4) / 2 * 2) = 1 then ((nI (10 + n1)) - 1) else (nI (10 + n1)))) : Int32) = (if y16 = 0 then (nI (10 + n1)) else (if ((x7 / 4) - (x7 / 4) / 2 * 2) = 1 then ((nI (10 + n1)) - 1) else (nI (10 + n1)))) := rfl
        refine lv_if_eq (tgt := 127) hx hb d_Model_command_107 rfl (fun h62 => ?_) (fun h62 => ?_)
        · replace hv := hv.trans (if_pos h62)
          refine lv_iload hx hb d_Model_command_127 (lv_at hl 0 rfl) ?_
          exact J19 _ _ _ hv.symm hP hD hS
        replace hv := hv.trans (if_neg h62)
        refine lv_iload hx hb d_Model_command_110 (lv_at hl 9 rfl) ?_
        refine lv_iconst (v := 4) hx hb d_Model_command_112 rfl ?_
        refine lv_idiv hx hb d_Model_command_113 (by decide) ?_
        refine lv_iconst (v := 2) hx hb d_Model_command_114 rfl ?_
        refine lv_irem hx hb d_Model_command_115 (by decide) ?_
        refine lv_iconst (v := 1) hx hb d_Model_command_116 rfl ?_
        refine lv_icmp_ne (tgt := 127) hx hb d_Model_command_117 rfl (fun h63 => ?_) (fun h63 => ?_)
        · replace hv := hv.trans (if_neg h63)
          refine lv_iload hx hb d_Model_command_127 (lv_at hl 0 rfl) ?_
          exact J19 _ _ _ hv.symm hP hD hS
        replace hv := hv.trans (if_pos h63)
        refine lv_iload hx hb d_Model_command_120 (lv_at hl 0 rfl) ?_
        refine lv_iconst (v := 1) hx hb d_Model_command_122 rfl ?_
        refine lv_isub hx hb d_Model_command_123 ?_
        refine lv_goto (tgt := 129) hx hb d_Model_command_124 rfl ?_
        exact J19 _ _ _ hv.symm hP hD hS
      have hv : ((if y16 = 0 then (0) else (nI (ln + 1))) : Int32) = (if y16 = 0 then (0) else (nI (ln + 1))) := rfl
      refine lv_if_eq (tgt := 101) hx hb d_Model_command_91 rfl (fun h64 => ?_) (fun h64 => ?_)
      · replace hv := hv.trans (if_pos h64)
        refine lv_iconst (v := 0) hx hb d_Model_command_101 rfl ?_
        exact J17 _ _ _ hv.symm hP hD hS
      replace hv := hv.trans (if_neg h64)
      refine lv_iload hx hb d_Model_command_94 (lv_at hl 6 rfl) ?_
      refine lv_iconst (v := 1) hx hb d_Model_command_96 rfl ?_
      refine lv_iadd hx hb d_Model_command_97 ?_
      refine xtop (y := nI (ln + 1)) (nI_add ln 1) ?_
      refine lv_goto (tgt := 102) hx hb d_Model_command_98 rfl ?_
      exact J17 _ _ _ hv.symm hP hD hS
    have hv : ((if (x1 &&& 48) = 0 then (0) else (1)) : Int32) = (if (x1 &&& 48) = 0 then (0) else (1)) := rfl
    refine lv_if_eq (tgt := 84) hx hb d_Model_command_77 rfl (fun h65 => ?_) (fun h65 => ?_)
    · replace hv := hv.trans (if_pos h65)
      refine lv_iconst (v := 0) hx hb d_Model_command_84 rfl ?_
      exact J15 _ _ _ hv.symm (Or.inl rfl) hP hD hS
    replace hv := hv.trans (if_neg h65)
    refine lv_iconst (v := 1) hx hb d_Model_command_80 rfl ?_
    refine lv_goto (tgt := 85) hx hb d_Model_command_81 rfl ?_
    exact J15 _ _ _ hv.symm (Or.inr rfl) hP hD hS
  replace hq := hq.trans (if_pos h14)
  refine lv_iconst (v := (-1)) hx hb d_Model_command_71 rfl ?_
  exact hret (-1) (dr, th, Ls, rw) ⟨hq.symm, hM⟩ _ _ _ _ hP hD hS d_Model_command_72

theorem dX10_recur_0 : decode cX10_recur 0 = .ok (.aload_n 0, 1) := by decide +kernel
theorem dX10_recur_1 : decode cX10_recur 1 = .ok (.iload_n 1, 1) := by decide +kernel
theorem dX10_recur_2 : decode cX10_recur 2 = .ok (.invokevirtual 155, 3) := by decide +kernel
theorem dX10_recur_5 : decode cX10_recur 5 = .ok (.ifCond .ne 6, 3) := by decide +kernel
theorem dX10_recur_8 : decode cX10_recur 8 = .ok (.bipush (-101), 2) := by decide +kernel
theorem dX10_recur_10 : decode cX10_recur 10 = .ok (.ireturn, 1) := by decide +kernel
theorem dX10_recur_11 : decode cX10_recur 11 = .ok (.aload_n 0, 1) := by decide +kernel
theorem dX10_recur_12 : decode cX10_recur 12 = .ok (.getfield 26, 3) := by decide +kernel
theorem dX10_recur_15 : decode cX10_recur 15 = .ok (.iload_n 1, 1) := by decide +kernel
theorem dX10_recur_16 : decode cX10_recur 16 = .ok (.iaload, 1) := by decide +kernel
theorem dX10_recur_17 : decode cX10_recur 17 = .ok (.istore_n 2, 1) := by decide +kernel
theorem dX10_recur_18 : decode cX10_recur 18 = .ok (.iconst 0, 1) := by decide +kernel
theorem dX10_recur_19 : decode cX10_recur 19 = .ok (.istore_n 3, 1) := by decide +kernel
theorem dX10_recur_20 : decode cX10_recur 20 = .ok (.iload_n 3, 1) := by decide +kernel
theorem dX10_recur_21 : decode cX10_recur 21 = .ok (.bipush 45, 2) := by decide +kernel
theorem dX10_recur_23 : decode cX10_recur 23 = .ok (.if_icmp .ge 39, 3) := by decide +kernel
theorem dX10_recur_26 : decode cX10_recur 26 = .ok (.aload_n 0, 1) := by decide +kernel
theorem dX10_recur_27 : decode cX10_recur 27 = .ok (.getfield 77, 3) := by decide +kernel
theorem dX10_recur_30 : decode cX10_recur 30 = .ok (.iload_n 3, 1) := by decide +kernel
theorem dX10_recur_31 : decode cX10_recur 31 = .ok (.iload_n 3, 1) := by decide +kernel
theorem dX10_recur_32 : decode cX10_recur 32 = .ok (.ifCond .ne 7, 3) := by decide +kernel
theorem dX10_recur_35 : decode cX10_recur 35 = .ok (.iconst 1, 1) := by decide +kernel
theorem dX10_recur_36 : decode cX10_recur 36 = .ok (.goto 4, 3) := by decide +kernel
theorem dX10_recur_39 : decode cX10_recur 39 = .ok (.iconst 0, 1) := by decide +kernel
theorem dX10_recur_40 : decode cX10_recur 40 = .ok (.iastore, 1) := by decide +kernel
theorem dX10_recur_41 : decode cX10_recur 41 = .ok (.aload_n 0, 1) := by decide +kernel
theorem dX10_recur_42 : decode cX10_recur 42 = .ok (.getfield 80, 3) := by decide +kernel
theorem dX10_recur_45 : decode cX10_recur 45 = .ok (.iload_n 3, 1) := by decide +kernel
theorem dX10_recur_46 : decode cX10_recur 46 = .ok (.iload_n 3, 1) := by decide +kernel
theorem dX10_recur_47 : decode cX10_recur 47 = .ok (.ifCond .ne 7, 3) := by decide +kernel
theorem dX10_recur_50 : decode cX10_recur 50 = .ok (.iconst 1, 1) := by decide +kernel
theorem dX10_recur_51 : decode cX10_recur 51 = .ok (.goto 4, 3) := by decide +kernel
theorem dX10_recur_54 : decode cX10_recur 54 = .ok (.iconst 0, 1) := by decide +kernel
theorem dX10_recur_55 : decode cX10_recur 55 = .ok (.iastore, 1) := by decide +kernel
theorem dX10_recur_56 : decode cX10_recur 56 = .ok (.iinc 3 1, 3) := by decide +kernel
theorem dX10_recur_59 : decode cX10_recur 59 = .ok (.goto (-39), 3) := by decide +kernel
theorem dX10_recur_62 : decode cX10_recur 62 = .ok (.iconst 0, 1) := by decide +kernel
theorem dX10_recur_63 : decode cX10_recur 63 = .ok (.istore_n 3, 1) := by decide +kernel
theorem dX10_recur_64 : decode cX10_recur 64 = .ok (.iconst 1, 1) := by decide +kernel
theorem dX10_recur_65 : decode cX10_recur 65 = .ok (.istore 4, 2) := by decide +kernel
theorem dX10_recur_67 : decode cX10_recur 67 = .ok (.iconst 1, 1) := by decide +kernel
theorem dX10_recur_68 : decode cX10_recur 68 = .ok (.istore 5, 2) := by decide +kernel
theorem dX10_recur_70 : decode cX10_recur 70 = .ok (.iconst 0, 1) := by decide +kernel
theorem dX10_recur_71 : decode cX10_recur 71 = .ok (.istore 6, 2) := by decide +kernel
theorem dX10_recur_73 : decode cX10_recur 73 = .ok (.iload 6, 2) := by decide +kernel
theorem dX10_recur_75 : decode cX10_recur 75 = .ok (.iload_n 2, 1) := by decide +kernel
theorem dX10_recur_76 : decode cX10_recur 76 = .ok (.if_icmp .gt 237, 3) := by decide +kernel
theorem dX10_recur_79 : decode cX10_recur 79 = .ok (.lconst 0, 1) := by decide +kernel
theorem dX10_recur_80 : decode cX10_recur 80 = .ok (.lstore 7, 2) := by decide +kernel
theorem dX10_recur_82 : decode cX10_recur 82 = .ok (.iconst 0, 1) := by decide +kernel
theorem dX10_recur_83 : decode cX10_recur 83 = .ok (.istore 9, 2) := by decide +kernel
theorem dX10_recur_85 : decode cX10_recur 85 = .ok (.iload 9, 2) := by decide +kernel
theorem dX10_recur_87 : decode cX10_recur 87 = .ok (.iload_n 3, 1) := by decide +kernel
theorem dX10_recur_88 : decode cX10_recur 88 = .ok (.if_icmp .gt 41, 3) := by decide +kernel
theorem dX10_recur_91 : decode cX10_recur 91 = .ok (.iload 9, 2) := by decide +kernel
theorem dX10_recur_93 : decode cX10_recur 93 = .ok (.iload 6, 2) := by decide +kernel
theorem dX10_recur_95 : decode cX10_recur 95 = .ok (.if_icmp .gt 34, 3) := by decide +kernel
theorem dX10_recur_98 : decode cX10_recur 98 = .ok (.lload 7, 2) := by decide +kernel
theorem dX10_recur_100 : decode cX10_recur 100 = .ok (.aload_n 0, 1) := by decide +kernel
theorem dX10_recur_101 : decode cX10_recur 101 = .ok (.getfield 77, 3) := by decide +kernel
theorem dX10_recur_104 : decode cX10_recur 104 = .ok (.iload 9, 2) := by decide +kernel
theorem dX10_recur_106 : decode cX10_recur 106 = .ok (.iaload, 1) := by decide +kernel
theorem dX10_recur_107 : decode cX10_recur 107 = .ok (.i2l, 1) := by decide +kernel
theorem dX10_recur_108 : decode cX10_recur 108 = .ok (.aload_n 0, 1) := by decide +kernel
theorem dX10_recur_109 : decode cX10_recur 109 = .ok (.iload_n 1, 1) := by decide +kernel
theorem dX10_recur_110 : decode cX10_recur 110 = .ok (.iload 6, 2) := by decide +kernel
theorem dX10_recur_112 : decode cX10_recur 112 = .ok (.iload 9, 2) := by decide +kernel
theorem dX10_recur_114 : decode cX10_recur 114 = .ok (.isub, 1) := by decide +kernel
theorem dX10_recur_115 : decode cX10_recur 115 = .ok (.invokevirtual 161, 3) := by decide +kernel
theorem dX10_recur_118 : decode cX10_recur 118 = .ok (.i2l, 1) := by decide +kernel
theorem dX10_recur_119 : decode cX10_recur 119 = .ok (.lmul, 1) := by decide +kernel
theorem dX10_recur_120 : decode cX10_recur 120 = .ok (.ladd, 1) := by decide +kernel
theorem dX10_recur_121 : decode cX10_recur 121 = .ok (.lstore 7, 2) := by decide +kernel
theorem dX10_recur_123 : decode cX10_recur 123 = .ok (.iinc 9 1, 3) := by decide +kernel
theorem dX10_recur_126 : decode cX10_recur 126 = .ok (.goto (-41), 3) := by decide +kernel
theorem dX10_recur_129 : decode cX10_recur 129 = .ok (.aload_n 0, 1) := by decide +kernel
theorem dX10_recur_130 : decode cX10_recur 130 = .ok (.lload 7, 2) := by decide +kernel
theorem dX10_recur_132 : decode cX10_recur 132 = .ok (.invokevirtual 135, 3) := by decide +kernel
theorem dX10_recur_135 : decode cX10_recur 135 = .ok (.istore 9, 2) := by decide +kernel
theorem dX10_recur_137 : decode cX10_recur 137 = .ok (.iload 9, 2) := by decide +kernel
theorem dX10_recur_139 : decode cX10_recur 139 = .ok (.ifCond .ne 9, 3) := by decide +kernel
theorem dX10_recur_142 : decode cX10_recur 142 = .ok (.iinc 4 1, 3) := by decide +kernel
theorem dX10_recur_145 : decode cX10_recur 145 = .ok (.goto 162, 3) := by decide +kernel
theorem dX10_recur_148 : decode cX10_recur 148 = .ok (.aload_n 0, 1) := by decide +kernel
theorem dX10_recur_149 : decode cX10_recur 149 = .ok (.iload 9, 2) := by decide +kernel
theorem dX10_recur_151 : decode cX10_recur 151 = .ok (.aload_n 0, 1) := by decide +kernel
theorem dX10_recur_152 : decode cX10_recur 152 = .ok (.iload 5, 2) := by decide +kernel
theorem dX10_recur_154 : decode cX10_recur 154 = .ok (.invokevirtual 142, 3) := by decide +kernel
theorem dX10_recur_157 : decode cX10_recur 157 = .ok (.invokevirtual 99, 3) := by decide +kernel
theorem dX10_recur_160 : decode cX10_recur 160 = .ok (.istore 10, 2) := by decide +kernel
theorem dX10_recur_162 : decode cX10_recur 162 = .ok (.iconst 0, 1) := by decide +kernel
theorem dX10_recur_163 : decode cX10_recur 163 = .ok (.istore 11, 2) := by decide +kernel
theorem dX10_recur_165 : decode cX10_recur 165 = .ok (.iload 11, 2) := by decide +kernel
theorem dX10_recur_167 : decode cX10_recur 167 = .ok (.bipush 45, 2) := by decide +kernel
theorem dX10_recur_169 : decode cX10_recur 169 = .ok (.if_icmp .ge 23, 3) := by decide +kernel
theorem dX10_recur_172 : decode cX10_recur 172 = .ok (.aload_n 0, 1) := by decide +kernel
theorem dX10_recur_173 : decode cX10_recur 173 = .ok (.getfield 83, 3) := by decide +kernel
theorem dX10_recur_176 : decode cX10_recur 176 = .ok (.iload 11, 2) := by decide +kernel
theorem dX10_recur_178 : decode cX10_recur 178 = .ok (.aload_n 0, 1) := by decide +kernel
theorem dX10_recur_179 : decode cX10_recur 179 = .ok (.getfield 77, 3) := by decide +kernel
theorem dX10_recur_182 : decode cX10_recur 182 = .ok (.iload 11, 2) := by decide +kernel
theorem dX10_recur_184 : decode cX10_recur 184 = .ok (.iaload, 1) := by decide +kernel
theorem dX10_recur_185 : decode cX10_recur 185 = .ok (.iastore, 1) := by decide +kernel
theorem dX10_recur_186 : decode cX10_recur 186 = .ok (.iinc 11 1, 3) := by decide +kernel
theorem dX10_recur_189 : decode cX10_recur 189 = .ok (.goto (-24), 3) := by decide +kernel
theorem dX10_recur_192 : decode cX10_recur 192 = .ok (.iconst 0, 1) := by decide +kernel
theorem dX10_recur_193 : decode cX10_recur 193 = .ok (.istore 11, 2) := by decide +kernel
theorem dX10_recur_195 : decode cX10_recur 195 = .ok (.iload 11, 2) := by decide +kernel
theorem dX10_recur_197 : decode cX10_recur 197 = .ok (.iload 4, 2) := by decide +kernel
theorem dX10_recur_199 : decode cX10_recur 199 = .ok (.iadd, 1) := by decide +kernel
theorem dX10_recur_200 : decode cX10_recur 200 = .ok (.bipush 45, 2) := by decide +kernel
theorem dX10_recur_202 : decode cX10_recur 202 = .ok (.if_icmp .ge 47, 3) := by decide +kernel
theorem dX10_recur_205 : decode cX10_recur 205 = .ok (.aload_n 0, 1) := by decide +kernel
theorem dX10_recur_206 : decode cX10_recur 206 = .ok (.getfield 77, 3) := by decide +kernel
theorem dX10_recur_209 : decode cX10_recur 209 = .ok (.iload 11, 2) := by decide +kernel
theorem dX10_recur_211 : decode cX10_recur 211 = .ok (.iload 4, 2) := by decide +kernel
theorem dX10_recur_213 : decode cX10_recur 213 = .ok (.iadd, 1) := by decide +kernel
theorem dX10_recur_214 : decode cX10_recur 214 = .ok (.aload_n 0, 1) := by decide +kernel
theorem dX10_recur_215 : decode cX10_recur 215 = .ok (.aload_n 0, 1) := by decide +kernel
theorem dX10_recur_216 : decode cX10_recur 216 = .ok (.getfield 77, 3) := by decide +kernel
theorem dX10_recur_219 : decode cX10_recur 219 = .ok (.iload 11, 2) := by decide +kernel
theorem dX10_recur_221 : decode cX10_recur 221 = .ok (.iload 4, 2) := by decide +kernel
theorem dX10_recur_223 : decode cX10_recur 223 = .ok (.iadd, 1) := by decide +kernel
theorem dX10_recur_224 : decode cX10_recur 224 = .ok (.iaload, 1) := by decide +kernel
theorem dX10_recur_225 : decode cX10_recur 225 = .ok (.i2l, 1) := by decide +kernel
theorem dX10_recur_226 : decode cX10_recur 226 = .ok (.iload 10, 2) := by decide +kernel
theorem dX10_recur_228 : decode cX10_recur 228 = .ok (.i2l, 1) := by decide +kernel
theorem dX10_recur_229 : decode cX10_recur 229 = .ok (.aload_n 0, 1) := by decide +kernel
theorem dX10_recur_230 : decode cX10_recur 230 = .ok (.getfield 80, 3) := by decide +kernel
theorem dX10_recur_233 : decode cX10_recur 233 = .ok (.iload 11, 2) := by decide +kernel
theorem dX10_recur_235 : decode cX10_recur 235 = .ok (.iaload, 1) := by decide +kernel
theorem dX10_recur_236 : decode cX10_recur 236 = .ok (.i2l, 1) := by decide +kernel
theorem dX10_recur_237 : decode cX10_recur 237 = .ok (.lmul, 1) := by decide +kernel
theorem dX10_recur_238 : decode cX10_recur 238 = .ok (.lsub, 1) := by decide +kernel
theorem dX10_recur_239 : decode cX10_recur 239 = .ok (.invokevirtual 135, 3) := by decide +kernel
theorem dX10_recur_242 : decode cX10_recur 242 = .ok (.iastore, 1) := by decide +kernel
theorem dX10_recur_243 : decode cX10_recur 243 = .ok (.iinc 11 1, 3) := by decide +kernel
theorem dX10_recur_246 : decode cX10_recur 246 = .ok (.goto (-51), 3) := by decide +kernel
theorem dX10_recur_249 : decode cX10_recur 249 = .ok (.iconst 2, 1) := by decide +kernel
theorem dX10_recur_250 : decode cX10_recur 250 = .ok (.iload_n 3, 1) := by decide +kernel
theorem dX10_recur_251 : decode cX10_recur 251 = .ok (.imul, 1) := by decide +kernel
theorem dX10_recur_252 : decode cX10_recur 252 = .ok (.iload 6, 2) := by decide +kernel
theorem dX10_recur_254 : decode cX10_recur 254 = .ok (.if_icmp .gt 50, 3) := by decide +kernel
theorem dX10_recur_257 : decode cX10_recur 257 = .ok (.iload 6, 2) := by decide +kernel
theorem dX10_recur_259 : decode cX10_recur 259 = .ok (.iconst 1, 1) := by decide +kernel
theorem dX10_recur_260 : decode cX10_recur 260 = .ok (.iadd, 1) := by decide +kernel
theorem dX10_recur_261 : decode cX10_recur 261 = .ok (.iload_n 3, 1) := by decide +kernel
theorem dX10_recur_262 : decode cX10_recur 262 = .ok (.isub, 1) := by decide +kernel
theorem dX10_recur_263 : decode cX10_recur 263 = .ok (.istore_n 3, 1) := by decide +kernel
theorem dX10_recur_264 : decode cX10_recur 264 = .ok (.iconst 0, 1) := by decide +kernel
theorem dX10_recur_265 : decode cX10_recur 265 = .ok (.istore 11, 2) := by decide +kernel
theorem dX10_recur_267 : decode cX10_recur 267 = .ok (.iload 11, 2) := by decide +kernel
theorem dX10_recur_269 : decode cX10_recur 269 = .ok (.bipush 45, 2) := by decide +kernel
theorem dX10_recur_271 : decode cX10_recur 271 = .ok (.if_icmp .ge 23, 3) := by decide +kernel
theorem dX10_recur_274 : decode cX10_recur 274 = .ok (.aload_n 0, 1) := by decide +kernel
theorem dX10_recur_275 : decode cX10_recur 275 = .ok (.getfield 80, 3) := by decide +kernel
theorem dX10_recur_278 : decode cX10_recur 278 = .ok (.iload 11, 2) := by decide +kernel
theorem dX10_recur_280 : decode cX10_recur 280 = .ok (.aload_n 0, 1) := by decide +kernel
theorem dX10_recur_281 : decode cX10_recur 281 = .ok (.getfield 83, 3) := by decide +kernel
theorem dX10_recur_284 : decode cX10_recur 284 = .ok (.iload 11, 2) := by decide +kernel
theorem dX10_recur_286 : decode cX10_recur 286 = .ok (.iaload, 1) := by decide +kernel
theorem dX10_recur_287 : decode cX10_recur 287 = .ok (.iastore, 1) := by decide +kernel
theorem dX10_recur_288 : decode cX10_recur 288 = .ok (.iinc 11 1, 3) := by decide +kernel
theorem dX10_recur_291 : decode cX10_recur 291 = .ok (.goto (-24), 3) := by decide +kernel
theorem dX10_recur_294 : decode cX10_recur 294 = .ok (.iload 9, 2) := by decide +kernel
theorem dX10_recur_296 : decode cX10_recur 296 = .ok (.istore 5, 2) := by decide +kernel
theorem dX10_recur_298 : decode cX10_recur 298 = .ok (.iconst 1, 1) := by decide +kernel
theorem dX10_recur_299 : decode cX10_recur 299 = .ok (.istore 4, 2) := by decide +kernel
theorem dX10_recur_301 : decode cX10_recur 301 = .ok (.goto 6, 3) := by decide +kernel
theorem dX10_recur_304 : decode cX10_recur 304 = .ok (.iinc 4 1, 3) := by decide +kernel
theorem dX10_recur_307 : decode cX10_recur 307 = .ok (.iinc 6 1, 3) := by decide +kernel
theorem dX10_recur_310 : decode cX10_recur 310 = .ok (.goto (-237), 3) := by decide +kernel
theorem dX10_recur_313 : decode cX10_recur 313 = .ok (.iload_n 3, 1) := by decide +kernel
theorem dX10_recur_314 : decode cX10_recur 314 = .ok (.ifCond .ne 10, 3) := by decide +kernel
theorem dX10_recur_317 : decode cX10_recur 317 = .ok (.aload_n 0, 1) := by decide +kernel
theorem dX10_recur_318 : decode cX10_recur 318 = .ok (.invokevirtual 121, 3) := by decide +kernel
theorem dX10_recur_321 : decode cX10_recur 321 = .ok (.goto 21, 3) := by decide +kernel
theorem dX10_recur_324 : decode cX10_recur 324 = .ok (.iconst 2, 1) := by decide +kernel
theorem dX10_recur_325 : decode cX10_recur 325 = .ok (.iload_n 3, 1) := by decide +kernel
theorem dX10_recur_326 : decode cX10_recur 326 = .ok (.imul, 1) := by decide +kernel
theorem dX10_recur_327 : decode cX10_recur 327 = .ok (.iconst 1, 1) := by decide +kernel
theorem dX10_recur_328 : decode cX10_recur 328 = .ok (.isub, 1) := by decide +kernel
theorem dX10_recur_329 : decode cX10_recur 329 = .ok (.iload_n 2, 1) := by decide +kernel
theorem dX10_recur_330 : decode cX10_recur 330 = .ok (.if_icmp .gt 12, 3) := by decide +kernel
theorem dX10_recur_333 : decode cX10_recur 333 = .ok (.aload_n 0, 1) := by decide +kernel
theorem dX10_recur_334 : decode cX10_recur 334 = .ok (.iload_n 1, 1) := by decide +kernel
theorem dX10_recur_335 : decode cX10_recur 335 = .ok (.iload_n 3, 1) := by decide +kernel
theorem dX10_recur_336 : decode cX10_recur 336 = .ok (.iconst 1, 1) := by decide +kernel
theorem dX10_recur_337 : decode cX10_recur 337 = .ok (.isub, 1) := by decide +kernel
theorem dX10_recur_338 : decode cX10_recur 338 = .ok (.iload_n 3, 1) := by decide +kernel
theorem dX10_recur_339 : decode cX10_recur 339 = .ok (.invokevirtual 193, 3) := by decide +kernel
theorem dX10_recur_342 : decode cX10_recur 342 = .ok (.iload_n 3, 1) := by decide +kernel
theorem dX10_recur_343 : decode cX10_recur 343 = .ok (.ireturn, 1) := by decide +kernel
theorem dX10_point_0 : decode cX10_point 0 = .ok (.aload_n 0, 1) := by decide +kernel
theorem dX10_point_1 : decode cX10_point 1 = .ok (.iload_n 1, 1) := by decide +kernel
theorem dX10_point_2 : decode cX10_point 2 = .ok (.i2l, 1) := by decide +kernel
theorem dX10_point_3 : decode cX10_point 3 = .ok (.invokevirtual 135, 3) := by decide +kernel
theorem dX10_point_6 : decode cX10_point 6 = .ok (.istore_n 3, 1) := by decide +kernel
theorem dX10_point_7 : decode cX10_point 7 = .ok (.aload_n 0, 1) := by decide +kernel
theorem dX10_point_8 : decode cX10_point 8 = .ok (.iload_n 2, 1) := by decide +kernel
theorem dX10_point_9 : decode cX10_point 9 = .ok (.i2l, 1) := by decide +kernel
theorem dX10_point_10 : decode cX10_point 10 = .ok (.invokevirtual 135, 3) := by decide +kernel
theorem dX10_point_13 : decode cX10_point 13 = .ok (.istore 4, 2) := by decide +kernel
theorem dX10_point_15 : decode cX10_point 15 = .ok (.iconst 0, 1) := by decide +kernel
theorem dX10_point_16 : decode cX10_point 16 = .ok (.istore 5, 2) := by decide +kernel
theorem dX10_point_18 : decode cX10_point 18 = .ok (.iload 5, 2) := by decide +kernel
theorem dX10_point_20 : decode cX10_point 20 = .ok (.aload_n 0, 1) := by decide +kernel
theorem dX10_point_21 : decode cX10_point 21 = .ok (.getfield 118, 3) := by decide +kernel
theorem dX10_point_24 : decode cX10_point 24 = .ok (.if_icmp .ge 42, 3) := by decide +kernel
theorem dX10_point_27 : decode cX10_point 27 = .ok (.aload_n 0, 1) := by decide +kernel
theorem dX10_point_28 : decode cX10_point 28 = .ok (.getfield 86, 3) := by decide +kernel
theorem dX10_point_31 : decode cX10_point 31 = .ok (.iload 5, 2) := by decide +kernel
theorem dX10_point_33 : decode cX10_point 33 = .ok (.iaload, 1) := by decide +kernel
theorem dX10_point_34 : decode cX10_point 34 = .ok (.iload_n 3, 1) := by decide +kernel
theorem dX10_point_35 : decode cX10_point 35 = .ok (.if_icmp .ne 25, 3) := by decide +kernel
theorem dX10_point_38 : decode cX10_point 38 = .ok (.aload_n 0, 1) := by decide +kernel
theorem dX10_point_39 : decode cX10_point 39 = .ok (.getfield 89, 3) := by decide +kernel
theorem dX10_point_42 : decode cX10_point 42 = .ok (.iload 5, 2) := by decide +kernel
theorem dX10_point_44 : decode cX10_point 44 = .ok (.iaload, 1) := by decide +kernel
theorem dX10_point_45 : decode cX10_point 45 = .ok (.iload 4, 2) := by decide +kernel
theorem dX10_point_47 : decode cX10_point 47 = .ok (.if_icmp .ne 10, 3) := by decide +kernel
theorem dX10_point_50 : decode cX10_point 50 = .ok (.aload_n 0, 1) := by decide +kernel
theorem dX10_point_51 : decode cX10_point 51 = .ok (.getfield 118, 3) := by decide +kernel
theorem dX10_point_54 : decode cX10_point 54 = .ok (.goto 5, 3) := by decide +kernel
theorem dX10_point_57 : decode cX10_point 57 = .ok (.bipush (-103), 2) := by decide +kernel
theorem dX10_point_59 : decode cX10_point 59 = .ok (.ireturn, 1) := by decide +kernel
theorem dX10_point_60 : decode cX10_point 60 = .ok (.iinc 5 1, 3) := by decide +kernel
theorem dX10_point_63 : decode cX10_point 63 = .ok (.goto (-45), 3) := by decide +kernel
theorem dX10_point_66 : decode cX10_point 66 = .ok (.aload_n 0, 1) := by decide +kernel
theorem dX10_point_67 : decode cX10_point 67 = .ok (.getfield 118, 3) := by decide +kernel
theorem dX10_point_70 : decode cX10_point 70 = .ok (.bipush 20, 2) := by decide +kernel
theorem dX10_point_72 : decode cX10_point 72 = .ok (.if_icmp .ne 6, 3) := by decide +kernel
theorem dX10_point_75 : decode cX10_point 75 = .ok (.bipush (-104), 2) := by decide +kernel
theorem dX10_point_77 : decode cX10_point 77 = .ok (.ireturn, 1) := by decide +kernel
theorem dX10_point_78 : decode cX10_point 78 = .ok (.aload_n 0, 1) := by decide +kernel
theorem dX10_point_79 : decode cX10_point 79 = .ok (.getfield 86, 3) := by decide +kernel
theorem dX10_point_82 : decode cX10_point 82 = .ok (.aload_n 0, 1) := by decide +kernel
theorem dX10_point_83 : decode cX10_point 83 = .ok (.getfield 118, 3) := by decide +kernel
theorem dX10_point_86 : decode cX10_point 86 = .ok (.iload_n 3, 1) := by decide +kernel
theorem dX10_point_87 : decode cX10_point 87 = .ok (.iastore, 1) := by decide +kernel
theorem dX10_point_88 : decode cX10_point 88 = .ok (.aload_n 0, 1) := by decide +kernel
theorem dX10_point_89 : decode cX10_point 89 = .ok (.getfield 89, 3) := by decide +kernel
theorem dX10_point_92 : decode cX10_point 92 = .ok (.aload_n 0, 1) := by decide +kernel
theorem dX10_point_93 : decode cX10_point 93 = .ok (.getfield 118, 3) := by decide +kernel
theorem dX10_point_96 : decode cX10_point 96 = .ok (.iload 4, 2) := by decide +kernel
theorem dX10_point_98 : decode cX10_point 98 = .ok (.iastore, 1) := by decide +kernel
theorem dX10_point_99 : decode cX10_point 99 = .ok (.aload_n 0, 1) := by decide +kernel
theorem dX10_point_100 : decode cX10_point 100 = .ok (.dup, 1) := by decide +kernel
theorem dX10_point_101 : decode cX10_point 101 = .ok (.getfield 118, 3) := by decide +kernel
theorem dX10_point_104 : decode cX10_point 104 = .ok (.iconst 1, 1) := by decide +kernel
theorem dX10_point_105 : decode cX10_point 105 = .ok (.iadd, 1) := by decide +kernel
theorem dX10_point_106 : decode cX10_point 106 = .ok (.putfield 118, 3) := by decide +kernel
theorem dX10_point_109 : decode cX10_point 109 = .ok (.aload_n 0, 1) := by decide +kernel
theorem dX10_point_110 : decode cX10_point 110 = .ok (.getfield 118, 3) := by decide +kernel
theorem dX10_point_113 : decode cX10_point 113 = .ok (.ireturn, 1) := by decide +kernel
theorem dX10_wipe_0 : decode cX10_wipe 0 = .ok (.aload_n 0, 1) := by decide +kernel
theorem dX10_wipe_1 : decode cX10_wipe 1 = .ok (.getfield 118, 3) := by decide +kernel
theorem dX10_wipe_4 : decode cX10_wipe 4 = .ok (.istore_n 1, 1) := by decide +kernel
theorem dX10_wipe_5 : decode cX10_wipe 5 = .ok (.aload_n 0, 1) := by decide +kernel
theorem dX10_wipe_6 : decode cX10_wipe 6 = .ok (.iconst 0, 1) := by decide +kernel
theorem dX10_wipe_7 : decode cX10_wipe 7 = .ok (.putfield 118, 3) := by decide +kernel
theorem dX10_wipe_10 : decode cX10_wipe 10 = .ok (.iload_n 1, 1) := by decide +kernel
theorem dX10_wipe_11 : decode cX10_wipe 11 = .ok (.ireturn, 1) := by decide +kernel
theorem dX10_valueOf_0 : decode cX10_valueOf 0 = .ok (.iconst 0, 1) := by decide +kernel
theorem dX10_valueOf_1 : decode cX10_valueOf 1 = .ok (.istore_n 3, 1) := by decide +kernel
theorem dX10_valueOf_2 : decode cX10_valueOf 2 = .ok (.bipush 45, 2) := by decide +kernel
theorem dX10_valueOf_4 : decode cX10_valueOf 4 = .ok (.istore 4, 2) := by decide +kernel
theorem dX10_valueOf_6 : decode cX10_valueOf 6 = .ok (.iload 4, 2) := by decide +kernel
theorem dX10_valueOf_8 : decode cX10_valueOf 8 = .ok (.ifCond .lt 25, 3) := by decide +kernel
theorem dX10_valueOf_11 : decode cX10_valueOf 11 = .ok (.aload_n 0, 1) := by decide +kernel
theorem dX10_valueOf_12 : decode cX10_valueOf 12 = .ok (.iload_n 3, 1) := by decide +kernel
theorem dX10_valueOf_13 : decode cX10_valueOf 13 = .ok (.i2l, 1) := by decide +kernel
theorem dX10_valueOf_14 : decode cX10_valueOf 14 = .ok (.iload_n 2, 1) := by decide +kernel
theorem dX10_valueOf_15 : decode cX10_valueOf 15 = .ok (.i2l, 1) := by decide +kernel
theorem dX10_valueOf_16 : decode cX10_valueOf 16 = .ok (.lmul, 1) := by decide +kernel
theorem dX10_valueOf_17 : decode cX10_valueOf 17 = .ok (.aload_n 1, 1) := by decide +kernel
theorem dX10_valueOf_18 : decode cX10_valueOf 18 = .ok (.iload 4, 2) := by decide +kernel
theorem dX10_valueOf_20 : decode cX10_valueOf 20 = .ok (.iaload, 1) := by decide +kernel
theorem dX10_valueOf_21 : decode cX10_valueOf 21 = .ok (.i2l, 1) := by decide +kernel
theorem dX10_valueOf_22 : decode cX10_valueOf 22 = .ok (.ladd, 1) := by decide +kernel
theorem dX10_valueOf_23 : decode cX10_valueOf 23 = .ok (.invokevirtual 135, 3) := by decide +kernel
theorem dX10_valueOf_26 : decode cX10_valueOf 26 = .ok (.istore_n 3, 1) := by decide +kernel
theorem dX10_valueOf_27 : decode cX10_valueOf 27 = .ok (.iinc 4 (-1), 3) := by decide +kernel
theorem dX10_valueOf_30 : decode cX10_valueOf 30 = .ok (.goto (-24), 3) := by decide +kernel
theorem dX10_valueOf_33 : decode cX10_valueOf 33 = .ok (.iload_n 3, 1) := by decide +kernel
theorem dX10_valueOf_34 : decode cX10_valueOf 34 = .ok (.ireturn, 1) := by decide +kernel
theorem dX10_join_0 : decode cX10_join 0 = .ok (.iload_n 1, 1) := by decide +kernel
theorem dX10_join_1 : decode cX10_join 1 = .ok (.ifCond .lt 7, 3) := by decide +kernel
theorem dX10_join_4 : decode cX10_join 4 = .ok (.iload_n 2, 1) := by decide +kernel
theorem dX10_join_5 : decode cX10_join 5 = .ok (.ifCond .ge 6, 3) := by decide +kernel
theorem dX10_join_8 : decode cX10_join 8 = .ok (.bipush (-102), 2) := by decide +kernel
theorem dX10_join_10 : decode cX10_join 10 = .ok (.ireturn, 1) := by decide +kernel
theorem dX10_join_11 : decode cX10_join 11 = .ok (.iload_n 1, 1) := by decide +kernel
theorem dX10_join_12 : decode cX10_join 12 = .ok (.i2l, 1) := by decide +kernel
theorem dX10_join_13 : decode cX10_join 13 = .ok (.iload_n 2, 1) := by decide +kernel
theorem dX10_join_14 : decode cX10_join 14 = .ok (.i2l, 1) := by decide +kernel
theorem dX10_join_15 : decode cX10_join 15 = .ok (.ladd, 1) := by decide +kernel
theorem dX10_join_16 : decode cX10_join 16 = .ok (.lconst 1, 1) := by decide +kernel
theorem dX10_join_17 : decode cX10_join 17 = .ok (.ladd, 1) := by decide +kernel
theorem dX10_join_18 : decode cX10_join 18 = .ok (.aload_n 0, 1) := by decide +kernel
theorem dX10_join_19 : decode cX10_join 19 = .ok (.getfield 118, 3) := by decide +kernel
theorem dX10_join_22 : decode cX10_join 22 = .ok (.i2l, 1) := by decide +kernel
theorem dX10_join_23 : decode cX10_join 23 = .ok (.lcmp, 1) := by decide +kernel
theorem dX10_join_24 : decode cX10_join 24 = .ok (.ifCond .eq 6, 3) := by decide +kernel
theorem dX10_join_27 : decode cX10_join 27 = .ok (.bipush (-103), 2) := by decide +kernel
theorem dX10_join_29 : decode cX10_join 29 = .ok (.ireturn, 1) := by decide +kernel
theorem dX10_join_30 : decode cX10_join 30 = .ok (.iconst 0, 1) := by decide +kernel
theorem dX10_join_31 : decode cX10_join 31 = .ok (.istore_n 3, 1) := by decide +kernel
theorem dX10_join_32 : decode cX10_join 32 = .ok (.iload_n 3, 1) := by decide +kernel
theorem dX10_join_33 : decode cX10_join 33 = .ok (.aload_n 0, 1) := by decide +kernel
theorem dX10_join_34 : decode cX10_join 34 = .ok (.getfield 118, 3) := by decide +kernel
theorem dX10_join_37 : decode cX10_join 37 = .ok (.if_icmp .ge 110, 3) := by decide +kernel
theorem dX10_join_40 : decode cX10_join 40 = .ok (.iconst 1, 1) := by decide +kernel
theorem dX10_join_41 : decode cX10_join 41 = .ok (.aload_n 0, 1) := by decide +kernel
theorem dX10_join_42 : decode cX10_join 42 = .ok (.getfield 92, 3) := by decide +kernel
theorem dX10_join_45 : decode cX10_join 45 = .ok (.irem, 1) := by decide +kernel
theorem dX10_join_46 : decode cX10_join 46 = .ok (.istore 4, 2) := by decide +kernel
theorem dX10_join_48 : decode cX10_join 48 = .ok (.iconst 0, 1) := by decide +kernel
theorem dX10_join_49 : decode cX10_join 49 = .ok (.istore 5, 2) := by decide +kernel
theorem dX10_join_51 : decode cX10_join 51 = .ok (.iload 5, 2) := by decide +kernel
theorem dX10_join_53 : decode cX10_join 53 = .ok (.iload_n 1, 1) := by decide +kernel
theorem dX10_join_54 : decode cX10_join 54 = .ok (.if_icmp .le 9, 3) := by decide +kernel
theorem dX10_join_57 : decode cX10_join 57 = .ok (.iload 5, 2) := by decide +kernel
theorem dX10_join_59 : decode cX10_join 59 = .ok (.iload_n 2, 1) := by decide +kernel
theorem dX10_join_60 : decode cX10_join 60 = .ok (.if_icmp .gt 81, 3) := by decide +kernel
theorem dX10_join_63 : decode cX10_join 63 = .ok (.iload 5, 2) := by decide +kernel
theorem dX10_join_65 : decode cX10_join 65 = .ok (.iload_n 1, 1) := by decide +kernel
theorem dX10_join_66 : decode cX10_join 66 = .ok (.if_icmp .gt 17, 3) := by decide +kernel
theorem dX10_join_69 : decode cX10_join 69 = .ok (.aload_n 0, 1) := by decide +kernel
theorem dX10_join_70 : decode cX10_join 70 = .ok (.getfield 41, 3) := by decide +kernel
theorem dX10_join_73 : decode cX10_join 73 = .ok (.bipush 44, 2) := by decide +kernel
theorem dX10_join_75 : decode cX10_join 75 = .ok (.iload_n 3, 1) := by decide +kernel
theorem dX10_join_76 : decode cX10_join 76 = .ok (.imul, 1) := by decide +kernel
theorem dX10_join_77 : decode cX10_join 77 = .ok (.iload 5, 2) := by decide +kernel
theorem dX10_join_79 : decode cX10_join 79 = .ok (.iadd, 1) := by decide +kernel
theorem dX10_join_80 : decode cX10_join 80 = .ok (.iload 4, 2) := by decide +kernel
theorem dX10_join_82 : decode cX10_join 82 = .ok (.iastore, 1) := by decide +kernel
theorem dX10_join_83 : decode cX10_join 83 = .ok (.iload 5, 2) := by decide +kernel
theorem dX10_join_85 : decode cX10_join 85 = .ok (.iload_n 2, 1) := by decide +kernel
theorem dX10_join_86 : decode cX10_join 86 = .ok (.if_icmp .gt 35, 3) := by decide +kernel
theorem dX10_join_89 : decode cX10_join 89 = .ok (.aload_n 0, 1) := by decide +kernel
theorem dX10_join_90 : decode cX10_join 90 = .ok (.getfield 41, 3) := by decide +kernel
theorem dX10_join_93 : decode cX10_join 93 = .ok (.bipush 44, 2) := by decide +kernel
theorem dX10_join_95 : decode cX10_join 95 = .ok (.iload_n 3, 1) := by decide +kernel
theorem dX10_join_96 : decode cX10_join 96 = .ok (.imul, 1) := by decide +kernel
theorem dX10_join_97 : decode cX10_join 97 = .ok (.iload_n 1, 1) := by decide +kernel
theorem dX10_join_98 : decode cX10_join 98 = .ok (.iadd, 1) := by decide +kernel
theorem dX10_join_99 : decode cX10_join 99 = .ok (.iconst 1, 1) := by decide +kernel
theorem dX10_join_100 : decode cX10_join 100 = .ok (.iadd, 1) := by decide +kernel
theorem dX10_join_101 : decode cX10_join 101 = .ok (.iload 5, 2) := by decide +kernel
theorem dX10_join_103 : decode cX10_join 103 = .ok (.iadd, 1) := by decide +kernel
theorem dX10_join_104 : decode cX10_join 104 = .ok (.aload_n 0, 1) := by decide +kernel
theorem dX10_join_105 : decode cX10_join 105 = .ok (.iload 4, 2) := by decide +kernel
theorem dX10_join_107 : decode cX10_join 107 = .ok (.i2l, 1) := by decide +kernel
theorem dX10_join_108 : decode cX10_join 108 = .ok (.lneg, 1) := by decide +kernel
theorem dX10_join_109 : decode cX10_join 109 = .ok (.aload_n 0, 1) := by decide +kernel
theorem dX10_join_110 : decode cX10_join 110 = .ok (.getfield 89, 3) := by decide +kernel
theorem dX10_join_113 : decode cX10_join 113 = .ok (.iload_n 3, 1) := by decide +kernel
theorem dX10_join_114 : decode cX10_join 114 = .ok (.iaload, 1) := by decide +kernel
theorem dX10_join_115 : decode cX10_join 115 = .ok (.i2l, 1) := by decide +kernel
theorem dX10_join_116 : decode cX10_join 116 = .ok (.lmul, 1) := by decide +kernel
theorem dX10_join_117 : decode cX10_join 117 = .ok (.invokevirtual 135, 3) := by decide +kernel
theorem dX10_join_120 : decode cX10_join 120 = .ok (.iastore, 1) := by decide +kernel
theorem dX10_join_121 : decode cX10_join 121 = .ok (.aload_n 0, 1) := by decide +kernel
theorem dX10_join_122 : decode cX10_join 122 = .ok (.iload 4, 2) := by decide +kernel
theorem dX10_join_124 : decode cX10_join 124 = .ok (.aload_n 0, 1) := by decide +kernel
theorem dX10_join_125 : decode cX10_join 125 = .ok (.getfield 86, 3) := by decide +kernel
theorem dX10_join_128 : decode cX10_join 128 = .ok (.iload_n 3, 1) := by decide +kernel
theorem dX10_join_129 : decode cX10_join 129 = .ok (.iaload, 1) := by decide +kernel
theorem dX10_join_130 : decode cX10_join 130 = .ok (.invokevirtual 99, 3) := by decide +kernel
theorem dX10_join_133 : decode cX10_join 133 = .ok (.istore 4, 2) := by decide +kernel
theorem dX10_join_135 : decode cX10_join 135 = .ok (.iinc 5 1, 3) := by decide +kernel
theorem dX10_join_138 : decode cX10_join 138 = .ok (.goto (-87), 3) := by decide +kernel
theorem dX10_join_141 : decode cX10_join 141 = .ok (.iinc 3 1, 3) := by decide +kernel
theorem dX10_join_144 : decode cX10_join 144 = .ok (.goto (-112), 3) := by decide +kernel
theorem dX10_join_147 : decode cX10_join 147 = .ok (.aload_n 0, 1) := by decide +kernel
theorem dX10_join_148 : decode cX10_join 148 = .ok (.aload_n 0, 1) := by decide +kernel
theorem dX10_join_149 : decode cX10_join 149 = .ok (.getfield 118, 3) := by decide +kernel
theorem dX10_join_152 : decode cX10_join 152 = .ok (.invokevirtual 179, 3) := by decide +kernel
theorem dX10_join_155 : decode cX10_join 155 = .ok (.aload_n 0, 1) := by decide +kernel
theorem dX10_join_156 : decode cX10_join 156 = .ok (.invokevirtual 145, 3) := by decide +kernel
theorem dX10_join_159 : decode cX10_join 159 = .ok (.iconst 0, 1) := by decide +kernel
theorem dX10_join_160 : decode cX10_join 160 = .ok (.istore_n 3, 1) := by decide +kernel
theorem dX10_join_161 : decode cX10_join 161 = .ok (.iload_n 3, 1) := by decide +kernel
theorem dX10_join_162 : decode cX10_join 162 = .ok (.iload_n 1, 1) := by decide +kernel
theorem dX10_join_163 : decode cX10_join 163 = .ok (.if_icmp .gt 21, 3) := by decide +kernel
theorem dX10_join_166 : decode cX10_join 166 = .ok (.aload_n 0, 1) := by decide +kernel
theorem dX10_join_167 : decode cX10_join 167 = .ok (.getfield 35, 3) := by decide +kernel
theorem dX10_join_170 : decode cX10_join 170 = .ok (.iload_n 3, 1) := by decide +kernel
theorem dX10_join_171 : decode cX10_join 171 = .ok (.aload_n 0, 1) := by decide +kernel
theorem dX10_join_172 : decode cX10_join 172 = .ok (.getfield 47, 3) := by decide +kernel
theorem dX10_join_175 : decode cX10_join 175 = .ok (.iload_n 3, 1) := by decide +kernel
theorem dX10_join_176 : decode cX10_join 176 = .ok (.iaload, 1) := by decide +kernel
theorem dX10_join_177 : decode cX10_join 177 = .ok (.iastore, 1) := by decide +kernel
theorem dX10_join_178 : decode cX10_join 178 = .ok (.iinc 3 1, 3) := by decide +kernel
theorem dX10_join_181 : decode cX10_join 181 = .ok (.goto (-20), 3) := by decide +kernel
theorem dX10_join_184 : decode cX10_join 184 = .ok (.iconst 0, 1) := by decide +kernel
theorem dX10_join_185 : decode cX10_join 185 = .ok (.istore_n 3, 1) := by decide +kernel
theorem dX10_join_186 : decode cX10_join 186 = .ok (.iload_n 3, 1) := by decide +kernel
theorem dX10_join_187 : decode cX10_join 187 = .ok (.iload_n 2, 1) := by decide +kernel
theorem dX10_join_188 : decode cX10_join 188 = .ok (.if_icmp .gt 25, 3) := by decide +kernel
theorem dX10_join_191 : decode cX10_join 191 = .ok (.aload_n 0, 1) := by decide +kernel
theorem dX10_join_192 : decode cX10_join 192 = .ok (.getfield 38, 3) := by decide +kernel
theorem dX10_join_195 : decode cX10_join 195 = .ok (.iload_n 3, 1) := by decide +kernel
theorem dX10_join_196 : decode cX10_join 196 = .ok (.aload_n 0, 1) := by decide +kernel
theorem dX10_join_197 : decode cX10_join 197 = .ok (.getfield 47, 3) := by decide +kernel
theorem dX10_join_200 : decode cX10_join 200 = .ok (.iload_n 1, 1) := by decide +kernel
theorem dX10_join_201 : decode cX10_join 201 = .ok (.iconst 1, 1) := by decide +kernel
theorem dX10_join_202 : decode cX10_join 202 = .ok (.iadd, 1) := by decide +kernel
theorem dX10_join_203 : decode cX10_join 203 = .ok (.iload_n 3, 1) := by decide +kernel
theorem dX10_join_204 : decode cX10_join 204 = .ok (.iadd, 1) := by decide +kernel
theorem dX10_join_205 : decode cX10_join 205 = .ok (.iaload, 1) := by decide +kernel
theorem dX10_join_206 : decode cX10_join 206 = .ok (.iastore, 1) := by decide +kernel
theorem dX10_join_207 : decode cX10_join 207 = .ok (.iinc 3 1, 3) := by decide +kernel
theorem dX10_join_210 : decode cX10_join 210 = .ok (.goto (-24), 3) := by decide +kernel
theorem dX10_join_213 : decode cX10_join 213 = .ok (.aload_n 0, 1) := by decide +kernel
theorem dX10_join_214 : decode cX10_join 214 = .ok (.invokevirtual 183, 3) := by decide +kernel
theorem dX10_join_217 : decode cX10_join 217 = .ok (.aload_n 0, 1) := by decide +kernel
theorem dX10_join_218 : decode cX10_join 218 = .ok (.invokevirtual 200, 3) := by decide +kernel
theorem dX10_join_221 : decode cX10_join 221 = .ok (.aload_n 0, 1) := by decide +kernel
theorem dX10_join_222 : decode cX10_join 222 = .ok (.invokevirtual 186, 3) := by decide +kernel
theorem dX10_join_225 : decode cX10_join 225 = .ok (.iconst 1, 1) := by decide +kernel
theorem dX10_join_226 : decode cX10_join 226 = .ok (.istore_n 3, 1) := by decide +kernel
theorem dX10_join_227 : decode cX10_join 227 = .ok (.iconst 0, 1) := by decide +kernel
theorem dX10_join_228 : decode cX10_join 228 = .ok (.istore 4, 2) := by decide +kernel
theorem dX10_join_230 : decode cX10_join 230 = .ok (.iload 4, 2) := by decide +kernel
theorem dX10_join_232 : decode cX10_join 232 = .ok (.aload_n 0, 1) := by decide +kernel
theorem dX10_join_233 : decode cX10_join 233 = .ok (.getfield 118, 3) := by decide +kernel
theorem dX10_join_236 : decode cX10_join 236 = .ok (.if_icmp .ge 72, 3) := by decide +kernel
theorem dX10_join_239 : decode cX10_join 239 = .ok (.aload_n 0, 1) := by decide +kernel
theorem dX10_join_240 : decode cX10_join 240 = .ok (.aload_n 0, 1) := by decide +kernel
theorem dX10_join_241 : decode cX10_join 241 = .ok (.getfield 53, 3) := by decide +kernel
theorem dX10_join_244 : decode cX10_join 244 = .ok (.aload_n 0, 1) := by decide +kernel
theorem dX10_join_245 : decode cX10_join 245 = .ok (.getfield 86, 3) := by decide +kernel
theorem dX10_join_248 : decode cX10_join 248 = .ok (.iload 4, 2) := by decide +kernel
theorem dX10_join_250 : decode cX10_join 250 = .ok (.iaload, 1) := by decide +kernel
theorem dX10_join_251 : decode cX10_join 251 = .ok (.invokevirtual 206, 3) := by decide +kernel
theorem dX10_join_254 : decode cX10_join 254 = .ok (.istore 5, 2) := by decide +kernel
theorem dX10_join_256 : decode cX10_join 256 = .ok (.iload_n 3, 1) := by decide +kernel
theorem dX10_join_257 : decode cX10_join 257 = .ok (.ifCond .eq 43, 3) := by decide +kernel
theorem dX10_join_260 : decode cX10_join 260 = .ok (.iload 5, 2) := by decide +kernel
theorem dX10_join_262 : decode cX10_join 262 = .ok (.ifCond .eq 38, 3) := by decide +kernel
theorem dX10_join_265 : decode cX10_join 265 = .ok (.aload_n 0, 1) := by decide +kernel
theorem dX10_join_266 : decode cX10_join 266 = .ok (.aload_n 0, 1) := by decide +kernel
theorem dX10_join_267 : decode cX10_join 267 = .ok (.getfield 50, 3) := by decide +kernel
theorem dX10_join_270 : decode cX10_join 270 = .ok (.aload_n 0, 1) := by decide +kernel
theorem dX10_join_271 : decode cX10_join 271 = .ok (.getfield 86, 3) := by decide +kernel
theorem dX10_join_274 : decode cX10_join 274 = .ok (.iload 4, 2) := by decide +kernel
theorem dX10_join_276 : decode cX10_join 276 = .ok (.iaload, 1) := by decide +kernel
theorem dX10_join_277 : decode cX10_join 277 = .ok (.invokevirtual 206, 3) := by decide +kernel
theorem dX10_join_280 : decode cX10_join 280 = .ok (.aload_n 0, 1) := by decide +kernel
theorem dX10_join_281 : decode cX10_join 281 = .ok (.iload 5, 2) := by decide +kernel
theorem dX10_join_283 : decode cX10_join 283 = .ok (.aload_n 0, 1) := by decide +kernel
theorem dX10_join_284 : decode cX10_join 284 = .ok (.getfield 89, 3) := by decide +kernel
theorem dX10_join_287 : decode cX10_join 287 = .ok (.iload 4, 2) := by decide +kernel
theorem dX10_join_289 : decode cX10_join 289 = .ok (.iaload, 1) := by decide +kernel
theorem dX10_join_290 : decode cX10_join 290 = .ok (.invokevirtual 99, 3) := by decide +kernel
theorem dX10_join_293 : decode cX10_join 293 = .ok (.if_icmp .ne 7, 3) := by decide +kernel
theorem dX10_join_296 : decode cX10_join 296 = .ok (.iconst 1, 1) := by decide +kernel
theorem dX10_join_297 : decode cX10_join 297 = .ok (.goto 4, 3) := by decide +kernel
theorem dX10_join_300 : decode cX10_join 300 = .ok (.iconst 0, 1) := by decide +kernel
theorem dX10_join_301 : decode cX10_join 301 = .ok (.istore_n 3, 1) := by decide +kernel
theorem dX10_join_302 : decode cX10_join 302 = .ok (.iinc 4 1, 3) := by decide +kernel
theorem dX10_join_305 : decode cX10_join 305 = .ok (.goto (-75), 3) := by decide +kernel
theorem dX10_join_308 : decode cX10_join 308 = .ok (.iload_n 3, 1) := by decide +kernel
theorem dX10_join_309 : decode cX10_join 309 = .ok (.ifCond .ne 7, 3) := by decide +kernel
theorem dX10_join_312 : decode cX10_join 312 = .ok (.aload_n 0, 1) := by decide +kernel
theorem dX10_join_313 : decode cX10_join 313 = .ok (.invokevirtual 203, 3) := by decide +kernel
theorem dX10_join_316 : decode cX10_join 316 = .ok (.iload_n 3, 1) := by decide +kernel
theorem dX10_join_317 : decode cX10_join 317 = .ok (.ifCond .eq 7, 3) := by decide +kernel
theorem dX10_join_320 : decode cX10_join 320 = .ok (.iconst 1, 1) := by decide +kernel
theorem dX10_join_321 : decode cX10_join 321 = .ok (.goto 4, 3) := by decide +kernel
theorem dX10_join_324 : decode cX10_join 324 = .ok (.iconst 0, 1) := by decide +kernel
theorem dX10_join_325 : decode cX10_join 325 = .ok (.ireturn, 1) := by decide +kernel
theorem dX10_degree_0 : decode cX10_degree 0 = .ok (.iload_n 1, 1) := by decide +kernel
theorem dX10_degree_1 : decode cX10_degree 1 = .ok (.i2l, 1) := by decide +kernel
theorem dX10_degree_2 : decode cX10_degree 2 = .ok (.lconst 0, 1) := by decide +kernel
theorem dX10_degree_3 : decode cX10_degree 3 = .ok (.lconst 1, 1) := by decide +kernel
theorem dX10_degree_4 : decode cX10_degree 4 = .ok (.invokestatic 107, 3) := by decide +kernel
theorem dX10_degree_7 : decode cX10_degree 7 = .ok (.ifCond .ne 8, 3) := by decide +kernel
theorem dX10_degree_10 : decode cX10_degree 10 = .ok (.bipush (-102), 2) := by decide +kernel
theorem dX10_degree_12 : decode cX10_degree 12 = .ok (.goto 28, 3) := by decide +kernel
theorem dX10_degree_15 : decode cX10_degree 15 = .ok (.iload_n 1, 1) := by decide +kernel
theorem dX10_degree_16 : decode cX10_degree 16 = .ok (.ifCond .ne 15, 3) := by decide +kernel
theorem dX10_degree_19 : decode cX10_degree 19 = .ok (.aload_n 0, 1) := by decide +kernel
theorem dX10_degree_20 : decode cX10_degree 20 = .ok (.getfield 50, 3) := by decide +kernel
theorem dX10_degree_23 : decode cX10_degree 23 = .ok (.bipush 45, 2) := by decide +kernel
theorem dX10_degree_25 : decode cX10_degree 25 = .ok (.invokestatic 167, 3) := by decide +kernel
theorem dX10_degree_28 : decode cX10_degree 28 = .ok (.goto 12, 3) := by decide +kernel
theorem dX10_degree_31 : decode cX10_degree 31 = .ok (.aload_n 0, 1) := by decide +kernel
theorem dX10_degree_32 : decode cX10_degree 32 = .ok (.getfield 53, 3) := by decide +kernel
theorem dX10_degree_35 : decode cX10_degree 35 = .ok (.bipush 45, 2) := by decide +kernel
theorem dX10_degree_37 : decode cX10_degree 37 = .ok (.invokestatic 167, 3) := by decide +kernel
theorem dX10_degree_40 : decode cX10_degree 40 = .ok (.ireturn, 1) := by decide +kernel
theorem dX10_term_0 : decode cX10_term 0 = .ok (.iload_n 1, 1) := by decide +kernel
theorem dX10_term_1 : decode cX10_term 1 = .ok (.i2l, 1) := by decide +kernel
theorem dX10_term_2 : decode cX10_term 2 = .ok (.lconst 0, 1) := by decide +kernel
theorem dX10_term_3 : decode cX10_term 3 = .ok (.lconst 1, 1) := by decide +kernel
theorem dX10_term_4 : decode cX10_term 4 = .ok (.invokestatic 107, 3) := by decide +kernel
theorem dX10_term_7 : decode cX10_term 7 = .ok (.ifCond .ne 6, 3) := by decide +kernel
theorem dX10_term_10 : decode cX10_term 10 = .ok (.bipush (-102), 2) := by decide +kernel
theorem dX10_term_12 : decode cX10_term 12 = .ok (.ireturn, 1) := by decide +kernel
theorem dX10_term_13 : decode cX10_term 13 = .ok (.iload_n 2, 1) := by decide +kernel
theorem dX10_term_14 : decode cX10_term 14 = .ok (.i2l, 1) := by decide +kernel
theorem dX10_term_15 : decode cX10_term 15 = .ok (.lconst 0, 1) := by decide +kernel
theorem dX10_term_16 : decode cX10_term 16 = .ok (.ldc2_w 209, 3) := by decide +kernel
theorem dX10_term_19 : decode cX10_term 19 = .ok (.invokestatic 107, 3) := by decide +kernel
theorem dX10_term_22 : decode cX10_term 22 = .ok (.ifCond .ne 7, 3) := by decide +kernel
theorem dX10_term_25 : decode cX10_term 25 = .ok (.iconst 0, 1) := by decide +kernel
theorem dX10_term_26 : decode cX10_term 26 = .ok (.goto 22, 3) := by decide +kernel
theorem dX10_term_29 : decode cX10_term 29 = .ok (.iload_n 1, 1) := by decide +kernel
theorem dX10_term_30 : decode cX10_term 30 = .ok (.ifCond .ne 12, 3) := by decide +kernel
theorem dX10_term_33 : decode cX10_term 33 = .ok (.aload_n 0, 1) := by decide +kernel
theorem dX10_term_34 : decode cX10_term 34 = .ok (.getfield 50, 3) := by decide +kernel
theorem dX10_term_37 : decode cX10_term 37 = .ok (.iload_n 2, 1) := by decide +kernel
theorem dX10_term_38 : decode cX10_term 38 = .ok (.iaload, 1) := by decide +kernel
theorem dX10_term_39 : decode cX10_term 39 = .ok (.goto 9, 3) := by decide +kernel
theorem dX10_term_42 : decode cX10_term 42 = .ok (.aload_n 0, 1) := by decide +kernel
theorem dX10_term_43 : decode cX10_term 43 = .ok (.getfield 53, 3) := by decide +kernel
theorem dX10_term_46 : decode cX10_term 46 = .ok (.iload_n 2, 1) := by decide +kernel
theorem dX10_term_47 : decode cX10_term 47 = .ok (.iaload, 1) := by decide +kernel
theorem dX10_term_48 : decode cX10_term 48 = .ok (.ireturn, 1) := by decide +kernel
theorem dX10_value_0 : decode cX10_value 0 = .ok (.aload_n 0, 1) := by decide +kernel
theorem dX10_value_1 : decode cX10_value 1 = .ok (.iload_n 1, 1) := by decide +kernel
theorem dX10_value_2 : decode cX10_value 2 = .ok (.i2l, 1) := by decide +kernel
theorem dX10_value_3 : decode cX10_value 3 = .ok (.invokevirtual 135, 3) := by decide +kernel
theorem dX10_value_6 : decode cX10_value 6 = .ok (.istore_n 2, 1) := by decide +kernel
theorem dX10_value_7 : decode cX10_value 7 = .ok (.aload_n 0, 1) := by decide +kernel
theorem dX10_value_8 : decode cX10_value 8 = .ok (.aload_n 0, 1) := by decide +kernel
theorem dX10_value_9 : decode cX10_value 9 = .ok (.getfield 53, 3) := by decide +kernel
theorem dX10_value_12 : decode cX10_value 12 = .ok (.iload_n 2, 1) := by decide +kernel
theorem dX10_value_13 : decode cX10_value 13 = .ok (.invokevirtual 206, 3) := by decide +kernel
theorem dX10_value_16 : decode cX10_value 16 = .ok (.istore_n 3, 1) := by decide +kernel
theorem dX10_value_17 : decode cX10_value 17 = .ok (.iload_n 3, 1) := by decide +kernel
theorem dX10_value_18 : decode cX10_value 18 = .ok (.ifCond .ne 7, 3) := by decide +kernel
theorem dX10_value_21 : decode cX10_value 21 = .ok (.iconst (-1), 1) := by decide +kernel
theorem dX10_value_22 : decode cX10_value 22 = .ok (.goto 21, 3) := by decide +kernel
theorem dX10_value_25 : decode cX10_value 25 = .ok (.aload_n 0, 1) := by decide +kernel
theorem dX10_value_26 : decode cX10_value 26 = .ok (.aload_n 0, 1) := by decide +kernel
theorem dX10_value_27 : decode cX10_value 27 = .ok (.aload_n 0, 1) := by decide +kernel
theorem dX10_value_28 : decode cX10_value 28 = .ok (.getfield 50, 3) := by decide +kernel
theorem dX10_value_31 : decode cX10_value 31 = .ok (.iload_n 2, 1) := by decide +kernel
theorem dX10_value_32 : decode cX10_value 32 = .ok (.invokevirtual 206, 3) := by decide +kernel
theorem dX10_value_35 : decode cX10_value 35 = .ok (.aload_n 0, 1) := by decide +kernel
theorem dX10_value_36 : decode cX10_value 36 = .ok (.iload_n 3, 1) := by decide +kernel
theorem dX10_value_37 : decode cX10_value 37 = .ok (.invokevirtual 142, 3) := by decide +kernel
theorem dX10_value_40 : decode cX10_value 40 = .ok (.invokevirtual 99, 3) := by decide +kernel
theorem dX10_value_43 : decode cX10_value 43 = .ok (.ireturn, 1) := by decide +kernel
theorem dX10_cause_0 : decode cX10_cause 0 = .ok (.aload_n 0, 1) := by decide +kernel
theorem dX10_cause_1 : decode cX10_cause 1 = .ok (.getfield 96, 3) := by decide +kernel
theorem dX10_cause_4 : decode cX10_cause 4 = .ok (.ireturn, 1) := by decide +kernel
theorem dX10_causes_0 : decode cX10_causes 0 = .ok (.iload_n 1, 1) := by decide +kernel
theorem dX10_causes_1 : decode cX10_causes 1 = .ok (.i2l, 1) := by decide +kernel
theorem dX10_causes_2 : decode cX10_causes 2 = .ok (.lconst 1, 1) := by decide +kernel
theorem dX10_causes_3 : decode cX10_causes 3 = .ok (.ldc2_w 211, 3) := by decide +kernel
theorem dX10_causes_6 : decode cX10_causes 6 = .ok (.invokestatic 107, 3) := by decide +kernel
theorem dX10_causes_9 : decode cX10_causes 9 = .ok (.ifCond .eq 12, 3) := by decide +kernel
theorem dX10_causes_12 : decode cX10_causes 12 = .ok (.aload_n 0, 1) := by decide +kernel
theorem dX10_causes_13 : decode cX10_causes 13 = .ok (.getfield 7, 3) := by decide +kernel
theorem dX10_causes_16 : decode cX10_causes 16 = .ok (.iload_n 1, 1) := by decide +kernel
theorem dX10_causes_17 : decode cX10_causes 17 = .ok (.iaload, 1) := by decide +kernel
theorem dX10_causes_18 : decode cX10_causes 18 = .ok (.goto 5, 3) := by decide +kernel
theorem dX10_causes_21 : decode cX10_causes 21 = .ok (.bipush (-102), 2) := by decide +kernel
theorem dX10_causes_23 : decode cX10_causes 23 = .ok (.ireturn, 1) := by decide +kernel
theorem dX10_count_0 : decode cX10_count 0 = .ok (.iconst 0, 1) := by decide +kernel
theorem dX10_count_1 : decode cX10_count 1 = .ok (.istore_n 2, 1) := by decide +kernel
theorem dX10_count_2 : decode cX10_count 2 = .ok (.iconst 0, 1) := by decide +kernel
theorem dX10_count_3 : decode cX10_count 3 = .ok (.istore_n 3, 1) := by decide +kernel
theorem dX10_count_4 : decode cX10_count 4 = .ok (.iload_n 3, 1) := by decide +kernel
theorem dX10_count_5 : decode cX10_count 5 = .ok (.iconst 4, 1) := by decide +kernel
theorem dX10_count_6 : decode cX10_count 6 = .ok (.if_icmp .ge 27, 3) := by decide +kernel
theorem dX10_count_9 : decode cX10_count 9 = .ok (.iload_n 2, 1) := by decide +kernel
theorem dX10_count_10 : decode cX10_count 10 = .ok (.aload_n 0, 1) := by decide +kernel
theorem dX10_count_11 : decode cX10_count 11 = .ok (.getfield 13, 3) := by decide +kernel
theorem dX10_count_14 : decode cX10_count 14 = .ok (.iload_n 3, 1) := by decide +kernel
theorem dX10_count_15 : decode cX10_count 15 = .ok (.iaload, 1) := by decide +kernel
theorem dX10_count_16 : decode cX10_count 16 = .ok (.iconst (-1), 1) := by decide +kernel
theorem dX10_count_17 : decode cX10_count 17 = .ok (.if_icmp .ne 7, 3) := by decide +kernel
theorem dX10_count_20 : decode cX10_count 20 = .ok (.iconst 0, 1) := by decide +kernel
theorem dX10_count_21 : decode cX10_count 21 = .ok (.goto 4, 3) := by decide +kernel
theorem dX10_count_24 : decode cX10_count 24 = .ok (.iconst 1, 1) := by decide +kernel
theorem dX10_count_25 : decode cX10_count 25 = .ok (.iadd, 1) := by decide +kernel
theorem dX10_count_26 : decode cX10_count 26 = .ok (.istore_n 2, 1) := by decide +kernel
theorem dX10_count_27 : decode cX10_count 27 = .ok (.iinc 3 1, 3) := by decide +kernel
theorem dX10_count_30 : decode cX10_count 30 = .ok (.goto (-26), 3) := by decide +kernel
theorem dX10_count_33 : decode cX10_count 33 = .ok (.iload_n 1, 1) := by decide +kernel
theorem dX10_count_34 : decode cX10_count 34 = .ok (.ifCond .ne 10, 3) := by decide +kernel
theorem dX10_count_37 : decode cX10_count 37 = .ok (.aload_n 0, 1) := by decide +kernel
theorem dX10_count_38 : decode cX10_count 38 = .ok (.getfield 92, 3) := by decide +kernel
theorem dX10_count_41 : decode cX10_count 41 = .ok (.goto 38, 3) := by decide +kernel
theorem dX10_count_44 : decode cX10_count 44 = .ok (.iload_n 1, 1) := by decide +kernel
theorem dX10_count_45 : decode cX10_count 45 = .ok (.iconst 1, 1) := by decide +kernel
theorem dX10_count_46 : decode cX10_count 46 = .ok (.if_icmp .ne 10, 3) := by decide +kernel
theorem dX10_count_49 : decode cX10_count 49 = .ok (.aload_n 0, 1) := by decide +kernel
theorem dX10_count_50 : decode cX10_count 50 = .ok (.getfield 115, 3) := by decide +kernel
theorem dX10_count_53 : decode cX10_count 53 = .ok (.goto 26, 3) := by decide +kernel
theorem dX10_count_56 : decode cX10_count 56 = .ok (.iload_n 1, 1) := by decide +kernel
theorem dX10_count_57 : decode cX10_count 57 = .ok (.iconst 2, 1) := by decide +kernel
theorem dX10_count_58 : decode cX10_count 58 = .ok (.if_icmp .ne 10, 3) := by decide +kernel
theorem dX10_count_61 : decode cX10_count 61 = .ok (.aload_n 0, 1) := by decide +kernel
theorem dX10_count_62 : decode cX10_count 62 = .ok (.getfield 118, 3) := by decide +kernel
theorem dX10_count_65 : decode cX10_count 65 = .ok (.goto 14, 3) := by decide +kernel
theorem dX10_count_68 : decode cX10_count 68 = .ok (.iload_n 1, 1) := by decide +kernel
theorem dX10_count_69 : decode cX10_count 69 = .ok (.iconst 3, 1) := by decide +kernel
theorem dX10_count_70 : decode cX10_count 70 = .ok (.if_icmp .ne 7, 3) := by decide +kernel
theorem dX10_count_73 : decode cX10_count 73 = .ok (.iload_n 2, 1) := by decide +kernel
theorem dX10_count_74 : decode cX10_count 74 = .ok (.goto 5, 3) := by decide +kernel
theorem dX10_count_77 : decode cX10_count 77 = .ok (.bipush (-102), 2) := by decide +kernel
theorem dX10_count_79 : decode cX10_count 79 = .ok (.ireturn, 1) := by decide +kernel
theorem dX10_digest_0 : decode cX10_digest 0 = .ok (.ldc2_w 213, 3) := by decide +kernel
theorem dX10_digest_3 : decode cX10_digest 3 = .ok (.aload_n 0, 1) := by decide +kernel
theorem dX10_digest_4 : decode cX10_digest 4 = .ok (.getfield 92, 3) := by decide +kernel
theorem dX10_digest_7 : decode cX10_digest 7 = .ok (.i2l, 1) := by decide +kernel
theorem dX10_digest_8 : decode cX10_digest 8 = .ok (.ladd, 1) := by decide +kernel
theorem dX10_digest_9 : decode cX10_digest 9 = .ok (.lstore_n 1, 1) := by decide +kernel
theorem dX10_digest_10 : decode cX10_digest 10 = .ok (.iconst 0, 1) := by decide +kernel
theorem dX10_digest_11 : decode cX10_digest 11 = .ok (.istore_n 3, 1) := by decide +kernel
theorem dX10_digest_12 : decode cX10_digest 12 = .ok (.iload_n 3, 1) := by decide +kernel
theorem dX10_digest_13 : decode cX10_digest 13 = .ok (.iconst 4, 1) := by decide +kernel
theorem dX10_digest_14 : decode cX10_digest 14 = .ok (.if_icmp .ge 76, 3) := by decide +kernel
theorem dX10_digest_17 : decode cX10_digest 17 = .ok (.aload_n 0, 1) := by decide +kernel
theorem dX10_digest_18 : decode cX10_digest 18 = .ok (.getfield 13, 3) := by decide +kernel
theorem dX10_digest_21 : decode cX10_digest 21 = .ok (.iload_n 3, 1) := by decide +kernel
theorem dX10_digest_22 : decode cX10_digest 22 = .ok (.iaload, 1) := by decide +kernel
theorem dX10_digest_23 : decode cX10_digest 23 = .ok (.iconst (-1), 1) := by decide +kernel
theorem dX10_digest_24 : decode cX10_digest 24 = .ok (.if_icmp .ne 7, 3) := by decide +kernel
theorem dX10_digest_27 : decode cX10_digest 27 = .ok (.iconst (-1), 1) := by decide +kernel
theorem dX10_digest_28 : decode cX10_digest 28 = .ok (.goto 9, 3) := by decide +kernel
theorem dX10_digest_31 : decode cX10_digest 31 = .ok (.aload_n 0, 1) := by decide +kernel
theorem dX10_digest_32 : decode cX10_digest 32 = .ok (.getfield 16, 3) := by decide +kernel
theorem dX10_digest_35 : decode cX10_digest 35 = .ok (.iload_n 3, 1) := by decide +kernel
theorem dX10_digest_36 : decode cX10_digest 36 = .ok (.iaload, 1) := by decide +kernel
theorem dX10_digest_37 : decode cX10_digest 37 = .ok (.istore 4, 2) := by decide +kernel
theorem dX10_digest_39 : decode cX10_digest 39 = .ok (.ldc2_w 215, 3) := by decide +kernel
theorem dX10_digest_42 : decode cX10_digest 42 = .ok (.lload_n 1, 1) := by decide +kernel
theorem dX10_digest_43 : decode cX10_digest 43 = .ok (.lmul, 1) := by decide +kernel
theorem dX10_digest_44 : decode cX10_digest 44 = .ok (.iload 4, 2) := by decide +kernel
theorem dX10_digest_46 : decode cX10_digest 46 = .ok (.i2l, 1) := by decide +kernel
theorem dX10_digest_47 : decode cX10_digest 47 = .ok (.ladd, 1) := by decide +kernel
theorem dX10_digest_48 : decode cX10_digest 48 = .ok (.lstore_n 1, 1) := by decide +kernel
theorem dX10_digest_49 : decode cX10_digest 49 = .ok (.iconst 0, 1) := by decide +kernel
theorem dX10_digest_50 : decode cX10_digest 50 = .ok (.istore 5, 2) := by decide +kernel
theorem dX10_digest_52 : decode cX10_digest 52 = .ok (.iload 5, 2) := by decide +kernel
theorem dX10_digest_54 : decode cX10_digest 54 = .ok (.iload 4, 2) := by decide +kernel
theorem dX10_digest_56 : decode cX10_digest 56 = .ok (.if_icmp .ge 28, 3) := by decide +kernel
theorem dX10_digest_59 : decode cX10_digest 59 = .ok (.ldc2_w 215, 3) := by decide +kernel
theorem dX10_digest_62 : decode cX10_digest 62 = .ok (.lload_n 1, 1) := by decide +kernel
theorem dX10_digest_63 : decode cX10_digest 63 = .ok (.lmul, 1) := by decide +kernel
theorem dX10_digest_64 : decode cX10_digest 64 = .ok (.aload_n 0, 1) := by decide +kernel
theorem dX10_digest_65 : decode cX10_digest 65 = .ok (.getfield 19, 3) := by decide +kernel
theorem dX10_digest_68 : decode cX10_digest 68 = .ok (.bipush 60, 2) := by decide +kernel
theorem dX10_digest_70 : decode cX10_digest 70 = .ok (.iload_n 3, 1) := by decide +kernel
theorem dX10_digest_71 : decode cX10_digest 71 = .ok (.imul, 1) := by decide +kernel
theorem dX10_digest_72 : decode cX10_digest 72 = .ok (.iload 5, 2) := by decide +kernel
theorem dX10_digest_74 : decode cX10_digest 74 = .ok (.iadd, 1) := by decide +kernel
theorem dX10_digest_75 : decode cX10_digest 75 = .ok (.laload, 1) := by decide +kernel
theorem dX10_digest_76 : decode cX10_digest 76 = .ok (.ladd, 1) := by decide +kernel
theorem dX10_digest_77 : decode cX10_digest 77 = .ok (.lstore_n 1, 1) := by decide +kernel
theorem dX10_digest_78 : decode cX10_digest 78 = .ok (.iinc 5 1, 3) := by decide +kernel
theorem dX10_digest_81 : decode cX10_digest 81 = .ok (.goto (-29), 3) := by decide +kernel
theorem dX10_digest_84 : decode cX10_digest 84 = .ok (.iinc 3 1, 3) := by decide +kernel
theorem dX10_digest_87 : decode cX10_digest 87 = .ok (.goto (-75), 3) := by decide +kernel
theorem dX10_digest_90 : decode cX10_digest 90 = .ok (.iconst 0, 1) := by decide +kernel
theorem dX10_digest_91 : decode cX10_digest 91 = .ok (.istore_n 3, 1) := by decide +kernel
theorem dX10_digest_92 : decode cX10_digest 92 = .ok (.iload_n 3, 1) := by decide +kernel
theorem dX10_digest_93 : decode cX10_digest 93 = .ok (.aload_n 0, 1) := by decide +kernel
theorem dX10_digest_94 : decode cX10_digest 94 = .ok (.getfield 115, 3) := by decide +kernel
theorem dX10_digest_97 : decode cX10_digest 97 = .ok (.if_icmp .ge 58, 3) := by decide +kernel
theorem dX10_digest_100 : decode cX10_digest 100 = .ok (.ldc2_w 215, 3) := by decide +kernel
theorem dX10_digest_103 : decode cX10_digest 103 = .ok (.lload_n 1, 1) := by decide +kernel
theorem dX10_digest_104 : decode cX10_digest 104 = .ok (.lmul, 1) := by decide +kernel
theorem dX10_digest_105 : decode cX10_digest 105 = .ok (.aload_n 0, 1) := by decide +kernel
theorem dX10_digest_106 : decode cX10_digest 106 = .ok (.getfield 26, 3) := by decide +kernel
theorem dX10_digest_109 : decode cX10_digest 109 = .ok (.iload_n 3, 1) := by decide +kernel
theorem dX10_digest_110 : decode cX10_digest 110 = .ok (.iaload, 1) := by decide +kernel
theorem dX10_digest_111 : decode cX10_digest 111 = .ok (.i2l, 1) := by decide +kernel
theorem dX10_digest_112 : decode cX10_digest 112 = .ok (.ladd, 1) := by decide +kernel
theorem dX10_digest_113 : decode cX10_digest 113 = .ok (.lstore_n 1, 1) := by decide +kernel
theorem dX10_digest_114 : decode cX10_digest 114 = .ok (.iconst 0, 1) := by decide +kernel
theorem dX10_digest_115 : decode cX10_digest 115 = .ok (.istore 4, 2) := by decide +kernel
theorem dX10_digest_117 : decode cX10_digest 117 = .ok (.iload 4, 2) := by decide +kernel
theorem dX10_digest_119 : decode cX10_digest 119 = .ok (.aload_n 0, 1) := by decide +kernel
theorem dX10_digest_120 : decode cX10_digest 120 = .ok (.getfield 26, 3) := by decide +kernel
theorem dX10_digest_123 : decode cX10_digest 123 = .ok (.iload_n 3, 1) := by decide +kernel
theorem dX10_digest_124 : decode cX10_digest 124 = .ok (.iaload, 1) := by decide +kernel
theorem dX10_digest_125 : decode cX10_digest 125 = .ok (.if_icmp .gt 24, 3) := by decide +kernel
theorem dX10_digest_128 : decode cX10_digest 128 = .ok (.ldc2_w 215, 3) := by decide +kernel
theorem dX10_digest_131 : decode cX10_digest 131 = .ok (.lload_n 1, 1) := by decide +kernel
theorem dX10_digest_132 : decode cX10_digest 132 = .ok (.lmul, 1) := by decide +kernel
theorem dX10_digest_133 : decode cX10_digest 133 = .ok (.aload_n 0, 1) := by decide +kernel
theorem dX10_digest_134 : decode cX10_digest 134 = .ok (.iload_n 3, 1) := by decide +kernel
theorem dX10_digest_135 : decode cX10_digest 135 = .ok (.iload 4, 2) := by decide +kernel
theorem dX10_digest_137 : decode cX10_digest 137 = .ok (.invokevirtual 161, 3) := by decide +kernel
theorem dX10_digest_140 : decode cX10_digest 140 = .ok (.i2l, 1) := by decide +kernel
theorem dX10_digest_141 : decode cX10_digest 141 = .ok (.ladd, 1) := by decide +kernel
theorem dX10_digest_142 : decode cX10_digest 142 = .ok (.lstore_n 1, 1) := by decide +kernel
theorem dX10_digest_143 : decode cX10_digest 143 = .ok (.iinc 4 1, 3) := by decide +kernel
theorem dX10_digest_146 : decode cX10_digest 146 = .ok (.goto (-29), 3) := by decide +kernel
theorem dX10_digest_149 : decode cX10_digest 149 = .ok (.iinc 3 1, 3) := by decide +kernel
theorem dX10_digest_152 : decode cX10_digest 152 = .ok (.goto (-60), 3) := by decide +kernel
theorem dX10_digest_155 : decode cX10_digest 155 = .ok (.iconst 0, 1) := by decide +kernel
theorem dX10_digest_156 : decode cX10_digest 156 = .ok (.istore_n 3, 1) := by decide +kernel
theorem dX10_digest_157 : decode cX10_digest 157 = .ok (.iload_n 3, 1) := by decide +kernel
theorem dX10_digest_158 : decode cX10_digest 158 = .ok (.aload_n 0, 1) := by decide +kernel
theorem dX10_digest_159 : decode cX10_digest 159 = .ok (.getfield 118, 3) := by decide +kernel
theorem dX10_digest_162 : decode cX10_digest 162 = .ok (.if_icmp .ge 37, 3) := by decide +kernel
theorem dX10_digest_165 : decode cX10_digest 165 = .ok (.ldc2_w 215, 3) := by decide +kernel
theorem dX10_digest_168 : decode cX10_digest 168 = .ok (.lload_n 1, 1) := by decide +kernel
theorem dX10_digest_169 : decode cX10_digest 169 = .ok (.lmul, 1) := by decide +kernel
theorem dX10_digest_170 : decode cX10_digest 170 = .ok (.aload_n 0, 1) := by decide +kernel
theorem dX10_digest_171 : decode cX10_digest 171 = .ok (.getfield 86, 3) := by decide +kernel
theorem dX10_digest_174 : decode cX10_digest 174 = .ok (.iload_n 3, 1) := by decide +kernel
theorem dX10_digest_175 : decode cX10_digest 175 = .ok (.iaload, 1) := by decide +kernel
theorem dX10_digest_176 : decode cX10_digest 176 = .ok (.i2l, 1) := by decide +kernel
theorem dX10_digest_177 : decode cX10_digest 177 = .ok (.ladd, 1) := by decide +kernel
theorem dX10_digest_178 : decode cX10_digest 178 = .ok (.lstore_n 1, 1) := by decide +kernel
theorem dX10_digest_179 : decode cX10_digest 179 = .ok (.ldc2_w 215, 3) := by decide +kernel
theorem dX10_digest_182 : decode cX10_digest 182 = .ok (.lload_n 1, 1) := by decide +kernel
theorem dX10_digest_183 : decode cX10_digest 183 = .ok (.lmul, 1) := by decide +kernel
theorem dX10_digest_184 : decode cX10_digest 184 = .ok (.aload_n 0, 1) := by decide +kernel
theorem dX10_digest_185 : decode cX10_digest 185 = .ok (.getfield 89, 3) := by decide +kernel
theorem dX10_digest_188 : decode cX10_digest 188 = .ok (.iload_n 3, 1) := by decide +kernel
theorem dX10_digest_189 : decode cX10_digest 189 = .ok (.iaload, 1) := by decide +kernel
theorem dX10_digest_190 : decode cX10_digest 190 = .ok (.i2l, 1) := by decide +kernel
theorem dX10_digest_191 : decode cX10_digest 191 = .ok (.ladd, 1) := by decide +kernel
theorem dX10_digest_192 : decode cX10_digest 192 = .ok (.lstore_n 1, 1) := by decide +kernel
theorem dX10_digest_193 : decode cX10_digest 193 = .ok (.iinc 3 1, 3) := by decide +kernel
theorem dX10_digest_196 : decode cX10_digest 196 = .ok (.goto (-39), 3) := by decide +kernel
theorem dX10_digest_199 : decode cX10_digest 199 = .ok (.aload_n 0, 1) := by decide +kernel
theorem dX10_digest_200 : decode cX10_digest 200 = .ok (.getfield 50, 3) := by decide +kernel
theorem dX10_digest_203 : decode cX10_digest 203 = .ok (.bipush 45, 2) := by decide +kernel
theorem dX10_digest_205 : decode cX10_digest 205 = .ok (.invokestatic 167, 3) := by decide +kernel
theorem dX10_digest_208 : decode cX10_digest 208 = .ok (.istore_n 3, 1) := by decide +kernel
theorem dX10_digest_209 : decode cX10_digest 209 = .ok (.aload_n 0, 1) := by decide +kernel
theorem dX10_digest_210 : decode cX10_digest 210 = .ok (.getfield 53, 3) := by decide +kernel
theorem dX10_digest_213 : decode cX10_digest 213 = .ok (.bipush 45, 2) := by decide +kernel
theorem dX10_digest_215 : decode cX10_digest 215 = .ok (.invokestatic 167, 3) := by decide +kernel
theorem dX10_digest_218 : decode cX10_digest 218 = .ok (.istore 4, 2) := by decide +kernel
theorem dX10_digest_220 : decode cX10_digest 220 = .ok (.ldc2_w 215, 3) := by decide +kernel
theorem dX10_digest_223 : decode cX10_digest 223 = .ok (.lload_n 1, 1) := by decide +kernel
theorem dX10_digest_224 : decode cX10_digest 224 = .ok (.lmul, 1) := by decide +kernel
theorem dX10_digest_225 : decode cX10_digest 225 = .ok (.iload_n 3, 1) := by decide +kernel
theorem dX10_digest_226 : decode cX10_digest 226 = .ok (.i2l, 1) := by decide +kernel
theorem dX10_digest_227 : decode cX10_digest 227 = .ok (.ladd, 1) := by decide +kernel
theorem dX10_digest_228 : decode cX10_digest 228 = .ok (.lstore_n 1, 1) := by decide +kernel
theorem dX10_digest_229 : decode cX10_digest 229 = .ok (.ldc2_w 215, 3) := by decide +kernel
theorem dX10_digest_232 : decode cX10_digest 232 = .ok (.lload_n 1, 1) := by decide +kernel
theorem dX10_digest_233 : decode cX10_digest 233 = .ok (.lmul, 1) := by decide +kernel
theorem dX10_digest_234 : decode cX10_digest 234 = .ok (.iload 4, 2) := by decide +kernel
theorem dX10_digest_236 : decode cX10_digest 236 = .ok (.i2l, 1) := by decide +kernel
theorem dX10_digest_237 : decode cX10_digest 237 = .ok (.ladd, 1) := by decide +kernel
theorem dX10_digest_238 : decode cX10_digest 238 = .ok (.lstore_n 1, 1) := by decide +kernel
theorem dX10_digest_239 : decode cX10_digest 239 = .ok (.iconst 0, 1) := by decide +kernel
theorem dX10_digest_240 : decode cX10_digest 240 = .ok (.istore 5, 2) := by decide +kernel
theorem dX10_digest_242 : decode cX10_digest 242 = .ok (.iload 5, 2) := by decide +kernel
theorem dX10_digest_244 : decode cX10_digest 244 = .ok (.iload_n 3, 1) := by decide +kernel
theorem dX10_digest_245 : decode cX10_digest 245 = .ok (.if_icmp .gt 24, 3) := by decide +kernel
theorem dX10_digest_248 : decode cX10_digest 248 = .ok (.ldc2_w 215, 3) := by decide +kernel
theorem dX10_digest_251 : decode cX10_digest 251 = .ok (.lload_n 1, 1) := by decide +kernel
theorem dX10_digest_252 : decode cX10_digest 252 = .ok (.lmul, 1) := by decide +kernel
theorem dX10_digest_253 : decode cX10_digest 253 = .ok (.aload_n 0, 1) := by decide +kernel
theorem dX10_digest_254 : decode cX10_digest 254 = .ok (.getfield 50, 3) := by decide +kernel
theorem dX10_digest_257 : decode cX10_digest 257 = .ok (.iload 5, 2) := by decide +kernel
theorem dX10_digest_259 : decode cX10_digest 259 = .ok (.iaload, 1) := by decide +kernel
theorem dX10_digest_260 : decode cX10_digest 260 = .ok (.i2l, 1) := by decide +kernel
theorem dX10_digest_261 : decode cX10_digest 261 = .ok (.ladd, 1) := by decide +kernel
theorem dX10_digest_262 : decode cX10_digest 262 = .ok (.lstore_n 1, 1) := by decide +kernel
theorem dX10_digest_263 : decode cX10_digest 263 = .ok (.iinc 5 1, 3) := by decide +kernel
theorem dX10_digest_266 : decode cX10_digest 266 = .ok (.goto (-24), 3) := by decide +kernel
theorem dX10_digest_269 : decode cX10_digest 269 = .ok (.iconst 0, 1) := by decide +kernel
theorem dX10_digest_270 : decode cX10_digest 270 = .ok (.istore 5, 2) := by decide +kernel
theorem dX10_digest_272 : decode cX10_digest 272 = .ok (.iload 5, 2) := by decide +kernel
theorem dX10_digest_274 : decode cX10_digest 274 = .ok (.iload 4, 2) := by decide +kernel
theorem dX10_digest_276 : decode cX10_digest 276 = .ok (.if_icmp .gt 24, 3) := by decide +kernel
theorem dX10_digest_279 : decode cX10_digest 279 = .ok (.ldc2_w 215, 3) := by decide +kernel
theorem dX10_digest_282 : decode cX10_digest 282 = .ok (.lload_n 1, 1) := by decide +kernel
theorem dX10_digest_283 : decode cX10_digest 283 = .ok (.lmul, 1) := by decide +kernel
theorem dX10_digest_284 : decode cX10_digest 284 = .ok (.aload_n 0, 1) := by decide +kernel
theorem dX10_digest_285 : decode cX10_digest 285 = .ok (.getfield 53, 3) := by decide +kernel
theorem dX10_digest_288 : decode cX10_digest 288 = .ok (.iload 5, 2) := by decide +kernel
theorem dX10_digest_290 : decode cX10_digest 290 = .ok (.iaload, 1) := by decide +kernel
theorem dX10_digest_291 : decode cX10_digest 291 = .ok (.i2l, 1) := by decide +kernel
theorem dX10_digest_292 : decode cX10_digest 292 = .ok (.ladd, 1) := by decide +kernel
theorem dX10_digest_293 : decode cX10_digest 293 = .ok (.lstore_n 1, 1) := by decide +kernel
theorem dX10_digest_294 : decode cX10_digest 294 = .ok (.iinc 5 1, 3) := by decide +kernel
theorem dX10_digest_297 : decode cX10_digest 297 = .ok (.goto (-25), 3) := by decide +kernel
theorem dX10_digest_300 : decode cX10_digest 300 = .ok (.lload_n 1, 1) := by decide +kernel
theorem dX10_digest_301 : decode cX10_digest 301 = .ok (.lreturn, 1) := by decide +kernel
theorem dJ9_min_7cf53_0 : decode cJ9_min_7cf53 0 = .ok (.iload_n 0, 1) := by decide +kernel
theorem dJ9_min_7cf53_1 : decode cJ9_min_7cf53 1 = .ok (.iload_n 1, 1) := by decide +kernel
theorem dJ9_min_7cf53_2 : decode cJ9_min_7cf53 2 = .ok (.if_icmp .gt 7, 3) := by decide +kernel
theorem dJ9_min_7cf53_5 : decode cJ9_min_7cf53 5 = .ok (.iload_n 0, 1) := by decide +kernel
theorem dJ9_min_7cf53_6 : decode cJ9_min_7cf53 6 = .ok (.goto 4, 3) := by decide +kernel
theorem dJ9_min_7cf53_9 : decode cJ9_min_7cf53 9 = .ok (.iload_n 1, 1) := by decide +kernel
theorem dJ9_min_7cf53_10 : decode cJ9_min_7cf53 10 = .ok (.ireturn, 1) := by decide +kernel
theorem dJ7_fill_d0a16_0 : decode cJ7_fill_d0a16 0 = .ok (.iconst 0, 1) := by decide +kernel
theorem dJ7_fill_d0a16_1 : decode cJ7_fill_d0a16 1 = .ok (.istore_n 3, 1) := by decide +kernel
theorem dJ7_fill_d0a16_2 : decode cJ7_fill_d0a16 2 = .ok (.aload_n 0, 1) := by decide +kernel
theorem dJ7_fill_d0a16_3 : decode cJ7_fill_d0a16 3 = .ok (.arraylength, 1) := by decide +kernel
theorem dJ7_fill_d0a16_4 : decode cJ7_fill_d0a16 4 = .ok (.istore 4, 2) := by decide +kernel
theorem dJ7_fill_d0a16_6 : decode cJ7_fill_d0a16 6 = .ok (.iload_n 3, 1) := by decide +kernel
theorem dJ7_fill_d0a16_7 : decode cJ7_fill_d0a16 7 = .ok (.iload 4, 2) := by decide +kernel
theorem dJ7_fill_d0a16_9 : decode cJ7_fill_d0a16 9 = .ok (.if_icmp .ge 13, 3) := by decide +kernel
theorem dJ7_fill_d0a16_12 : decode cJ7_fill_d0a16 12 = .ok (.aload_n 0, 1) := by decide +kernel
theorem dJ7_fill_d0a16_13 : decode cJ7_fill_d0a16 13 = .ok (.iload_n 3, 1) := by decide +kernel
theorem dJ7_fill_d0a16_14 : decode cJ7_fill_d0a16 14 = .ok (.lload_n 1, 1) := by decide +kernel
theorem dJ7_fill_d0a16_15 : decode cJ7_fill_d0a16 15 = .ok (.lastore, 1) := by decide +kernel
theorem dJ7_fill_d0a16_16 : decode cJ7_fill_d0a16 16 = .ok (.iinc 3 1, 3) := by decide +kernel
theorem dJ7_fill_d0a16_19 : decode cJ7_fill_d0a16 19 = .ok (.goto (-13), 3) := by decide +kernel
theorem dJ7_fill_d0a16_22 : decode cJ7_fill_d0a16 22 = .ok (.return_, 1) := by decide +kernel
theorem dJ7_fill_53178_0 : decode cJ7_fill_53178 0 = .ok (.iconst 0, 1) := by decide +kernel
theorem dJ7_fill_53178_1 : decode cJ7_fill_53178 1 = .ok (.istore_n 2, 1) := by decide +kernel
theorem dJ7_fill_53178_2 : decode cJ7_fill_53178 2 = .ok (.aload_n 0, 1) := by decide +kernel
theorem dJ7_fill_53178_3 : decode cJ7_fill_53178 3 = .ok (.arraylength, 1) := by decide +kernel
theorem dJ7_fill_53178_4 : decode cJ7_fill_53178 4 = .ok (.istore_n 3, 1) := by decide +kernel
theorem dJ7_fill_53178_5 : decode cJ7_fill_53178 5 = .ok (.iload_n 2, 1) := by decide +kernel
theorem dJ7_fill_53178_6 : decode cJ7_fill_53178 6 = .ok (.iload_n 3, 1) := by decide +kernel
theorem dJ7_fill_53178_7 : decode cJ7_fill_53178 7 = .ok (.if_icmp .ge 13, 3) := by decide +kernel
theorem dJ7_fill_53178_10 : decode cJ7_fill_53178 10 = .ok (.aload_n 0, 1) := by decide +kernel
theorem dJ7_fill_53178_11 : decode cJ7_fill_53178 11 = .ok (.iload_n 2, 1) := by decide +kernel
theorem dJ7_fill_53178_12 : decode cJ7_fill_53178 12 = .ok (.iload_n 1, 1) := by decide +kernel
theorem dJ7_fill_53178_13 : decode cJ7_fill_53178 13 = .ok (.iastore, 1) := by decide +kernel
theorem dJ7_fill_53178_14 : decode cJ7_fill_53178 14 = .ok (.iinc 2 1, 3) := by decide +kernel
theorem dJ7_fill_53178_17 : decode cJ7_fill_53178 17 = .ok (.goto (-12), 3) := by decide +kernel
theorem dJ7_fill_53178_20 : decode cJ7_fill_53178 20 = .ok (.return_, 1) := by decide +kernel

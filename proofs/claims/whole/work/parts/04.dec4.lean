theorem dX12_freightOf_0 : decode cX12_freightOf 0 = .ok (.aload_n 0, 1) := by decide +kernel
theorem dX12_freightOf_1 : decode cX12_freightOf 1 = .ok (.iload_n 1, 1) := by decide +kernel
theorem dX12_freightOf_2 : decode cX12_freightOf 2 = .ok (.invokevirtual 247, 3) := by decide +kernel
theorem dX12_freightOf_5 : decode cX12_freightOf 5 = .ok (.istore_n 3, 1) := by decide +kernel
theorem dX12_freightOf_6 : decode cX12_freightOf 6 = .ok (.aload_n 0, 1) := by decide +kernel
theorem dX12_freightOf_7 : decode cX12_freightOf 7 = .ok (.iload_n 2, 1) := by decide +kernel
theorem dX12_freightOf_8 : decode cX12_freightOf 8 = .ok (.invokevirtual 247, 3) := by decide +kernel
theorem dX12_freightOf_11 : decode cX12_freightOf 11 = .ok (.istore 4, 2) := by decide +kernel
theorem dX12_freightOf_13 : decode cX12_freightOf 13 = .ok (.aload_n 0, 1) := by decide +kernel
theorem dX12_freightOf_14 : decode cX12_freightOf 14 = .ok (.iload_n 3, 1) := by decide +kernel
theorem dX12_freightOf_15 : decode cX12_freightOf 15 = .ok (.iload 4, 2) := by decide +kernel
theorem dX12_freightOf_17 : decode cX12_freightOf 17 = .ok (.invokestatic 226, 3) := by decide +kernel
theorem dX12_freightOf_20 : decode cX12_freightOf 20 = .ok (.i2l, 1) := by decide +kernel
theorem dX12_freightOf_21 : decode cX12_freightOf 21 = .ok (.putfield 250, 3) := by decide +kernel
theorem dX12_freightOf_24 : decode cX12_freightOf 24 = .ok (.aload_n 0, 1) := by decide +kernel
theorem dX12_freightOf_25 : decode cX12_freightOf 25 = .ok (.getfield 21, 3) := by decide +kernel
theorem dX12_freightOf_28 : decode cX12_freightOf 28 = .ok (.bipush 7, 2) := by decide +kernel
theorem dX12_freightOf_30 : decode cX12_freightOf 30 = .ok (.iaload, 1) := by decide +kernel
theorem dX12_freightOf_31 : decode cX12_freightOf 31 = .ok (.i2l, 1) := by decide +kernel
theorem dX12_freightOf_32 : decode cX12_freightOf 32 = .ok (.iload_n 3, 1) := by decide +kernel
theorem dX12_freightOf_33 : decode cX12_freightOf 33 = .ok (.iload 4, 2) := by decide +kernel
theorem dX12_freightOf_35 : decode cX12_freightOf 35 = .ok (.isub, 1) := by decide +kernel
theorem dX12_freightOf_36 : decode cX12_freightOf 36 = .ok (.invokestatic 220, 3) := by decide +kernel
theorem dX12_freightOf_39 : decode cX12_freightOf 39 = .ok (.i2l, 1) := by decide +kernel
theorem dX12_freightOf_40 : decode cX12_freightOf 40 = .ok (.lmul, 1) := by decide +kernel
theorem dX12_freightOf_41 : decode cX12_freightOf 41 = .ok (.lstore 5, 2) := by decide +kernel
theorem dX12_freightOf_43 : decode cX12_freightOf 43 = .ok (.aload_n 0, 1) := by decide +kernel
theorem dX12_freightOf_44 : decode cX12_freightOf 44 = .ok (.iload_n 1, 1) := by decide +kernel
theorem dX12_freightOf_45 : decode cX12_freightOf 45 = .ok (.iload_n 2, 1) := by decide +kernel
theorem dX12_freightOf_46 : decode cX12_freightOf 46 = .ok (.invokevirtual 254, 3) := by decide +kernel
theorem dX12_freightOf_49 : decode cX12_freightOf 49 = .ok (.aload_n 0, 1) := by decide +kernel
theorem dX12_freightOf_50 : decode cX12_freightOf 50 = .ok (.getfield 250, 3) := by decide +kernel
theorem dX12_freightOf_53 : decode cX12_freightOf 53 = .ok (.l2i, 1) := by decide +kernel
theorem dX12_freightOf_54 : decode cX12_freightOf 54 = .ok (.istore 7, 2) := by decide +kernel
theorem dX12_freightOf_56 : decode cX12_freightOf 56 = .ok (.iload 7, 2) := by decide +kernel
theorem dX12_freightOf_58 : decode cX12_freightOf 58 = .ok (.ifCond .le 338, 3) := by decide +kernel
theorem dX12_freightOf_61 : decode cX12_freightOf 61 = .ok (.aload_n 0, 1) := by decide +kernel
theorem dX12_freightOf_62 : decode cX12_freightOf 62 = .ok (.iload_n 1, 1) := by decide +kernel
theorem dX12_freightOf_63 : decode cX12_freightOf 63 = .ok (.iload_n 2, 1) := by decide +kernel
theorem dX12_freightOf_64 : decode cX12_freightOf 64 = .ok (.invokevirtual 257, 3) := by decide +kernel
theorem dX12_freightOf_67 : decode cX12_freightOf 67 = .ok (.iconst (-1), 1) := by decide +kernel
theorem dX12_freightOf_68 : decode cX12_freightOf 68 = .ok (.istore 8, 2) := by decide +kernel
theorem dX12_freightOf_70 : decode cX12_freightOf 70 = .ok (.iconst 0, 1) := by decide +kernel
theorem dX12_freightOf_71 : decode cX12_freightOf 71 = .ok (.istore 9, 2) := by decide +kernel
theorem dX12_freightOf_73 : decode cX12_freightOf 73 = .ok (.iload 9, 2) := by decide +kernel
theorem dX12_freightOf_75 : decode cX12_freightOf 75 = .ok (.aload_n 0, 1) := by decide +kernel
theorem dX12_freightOf_76 : decode cX12_freightOf 76 = .ok (.getfield 18, 3) := by decide +kernel
theorem dX12_freightOf_79 : decode cX12_freightOf 79 = .ok (.iload_n 2, 1) := by decide +kernel
theorem dX12_freightOf_80 : decode cX12_freightOf 80 = .ok (.iaload, 1) := by decide +kernel
theorem dX12_freightOf_81 : decode cX12_freightOf 81 = .ok (.if_icmp .ge 58, 3) := by decide +kernel
theorem dX12_freightOf_84 : decode cX12_freightOf 84 = .ok (.aload_n 0, 1) := by decide +kernel
theorem dX12_freightOf_85 : decode cX12_freightOf 85 = .ok (.getfield 68, 3) := by decide +kernel
theorem dX12_freightOf_88 : decode cX12_freightOf 88 = .ok (.iload 9, 2) := by decide +kernel
theorem dX12_freightOf_90 : decode cX12_freightOf 90 = .ok (.iaload, 1) := by decide +kernel
theorem dX12_freightOf_91 : decode cX12_freightOf 91 = .ok (.ifCond .le 38, 3) := by decide +kernel
theorem dX12_freightOf_94 : decode cX12_freightOf 94 = .ok (.iload 8, 2) := by decide +kernel
theorem dX12_freightOf_96 : decode cX12_freightOf 96 = .ok (.iconst (-1), 1) := by decide +kernel
theorem dX12_freightOf_97 : decode cX12_freightOf 97 = .ok (.if_icmp .eq 27, 3) := by decide +kernel
theorem dX12_freightOf_100 : decode cX12_freightOf 100 = .ok (.aload_n 0, 1) := by decide +kernel
theorem dX12_freightOf_101 : decode cX12_freightOf 101 = .ok (.getfield 78, 3) := by decide +kernel
theorem dX12_freightOf_104 : decode cX12_freightOf 104 = .ok (.bipush 24, 2) := by decide +kernel
theorem dX12_freightOf_106 : decode cX12_freightOf 106 = .ok (.iload 9, 2) := by decide +kernel
theorem dX12_freightOf_108 : decode cX12_freightOf 108 = .ok (.iadd, 1) := by decide +kernel
theorem dX12_freightOf_109 : decode cX12_freightOf 109 = .ok (.laload, 1) := by decide +kernel
theorem dX12_freightOf_110 : decode cX12_freightOf 110 = .ok (.aload_n 0, 1) := by decide +kernel
theorem dX12_freightOf_111 : decode cX12_freightOf 111 = .ok (.getfield 78, 3) := by decide +kernel
theorem dX12_freightOf_114 : decode cX12_freightOf 114 = .ok (.bipush 24, 2) := by decide +kernel
theorem dX12_freightOf_116 : decode cX12_freightOf 116 = .ok (.iload 8, 2) := by decide +kernel
theorem dX12_freightOf_118 : decode cX12_freightOf 118 = .ok (.iadd, 1) := by decide +kernel
theorem dX12_freightOf_119 : decode cX12_freightOf 119 = .ok (.laload, 1) := by decide +kernel
theorem dX12_freightOf_120 : decode cX12_freightOf 120 = .ok (.lcmp, 1) := by decide +kernel
theorem dX12_freightOf_121 : decode cX12_freightOf 121 = .ok (.ifCond .ge 8, 3) := by decide +kernel
theorem dX12_freightOf_124 : decode cX12_freightOf 124 = .ok (.iload 9, 2) := by decide +kernel
theorem dX12_freightOf_126 : decode cX12_freightOf 126 = .ok (.goto 5, 3) := by decide +kernel
theorem dX12_freightOf_129 : decode cX12_freightOf 129 = .ok (.iload 8, 2) := by decide +kernel
theorem dX12_freightOf_131 : decode cX12_freightOf 131 = .ok (.istore 8, 2) := by decide +kernel
theorem dX12_freightOf_133 : decode cX12_freightOf 133 = .ok (.iinc 9 1, 3) := by decide +kernel
theorem dX12_freightOf_136 : decode cX12_freightOf 136 = .ok (.goto (-63), 3) := by decide +kernel
theorem dX12_freightOf_139 : decode cX12_freightOf 139 = .ok (.iload 7, 2) := by decide +kernel
theorem dX12_freightOf_141 : decode cX12_freightOf 141 = .ok (.aload_n 0, 1) := by decide +kernel
theorem dX12_freightOf_142 : decode cX12_freightOf 142 = .ok (.getfield 68, 3) := by decide +kernel
theorem dX12_freightOf_145 : decode cX12_freightOf 145 = .ok (.iload 8, 2) := by decide +kernel
theorem dX12_freightOf_147 : decode cX12_freightOf 147 = .ok (.iaload, 1) := by decide +kernel
theorem dX12_freightOf_148 : decode cX12_freightOf 148 = .ok (.invokestatic 226, 3) := by decide +kernel
theorem dX12_freightOf_151 : decode cX12_freightOf 151 = .ok (.istore 9, 2) := by decide +kernel
theorem dX12_freightOf_153 : decode cX12_freightOf 153 = .ok (.iload 8, 2) := by decide +kernel
theorem dX12_freightOf_155 : decode cX12_freightOf 155 = .ok (.istore 10, 2) := by decide +kernel
theorem dX12_freightOf_157 : decode cX12_freightOf 157 = .ok (.aload_n 0, 1) := by decide +kernel
theorem dX12_freightOf_158 : decode cX12_freightOf 158 = .ok (.getfield 81, 3) := by decide +kernel
theorem dX12_freightOf_161 : decode cX12_freightOf 161 = .ok (.bipush 24, 2) := by decide +kernel
theorem dX12_freightOf_163 : decode cX12_freightOf 163 = .ok (.iload 10, 2) := by decide +kernel
theorem dX12_freightOf_165 : decode cX12_freightOf 165 = .ok (.iadd, 1) := by decide +kernel
theorem dX12_freightOf_166 : decode cX12_freightOf 166 = .ok (.iaload, 1) := by decide +kernel
theorem dX12_freightOf_167 : decode cX12_freightOf 167 = .ok (.istore 11, 2) := by decide +kernel
theorem dX12_freightOf_169 : decode cX12_freightOf 169 = .ok (.aload_n 0, 1) := by decide +kernel
theorem dX12_freightOf_170 : decode cX12_freightOf 170 = .ok (.getfield 81, 3) := by decide +kernel
theorem dX12_freightOf_173 : decode cX12_freightOf 173 = .ok (.iload 11, 2) := by decide +kernel
theorem dX12_freightOf_175 : decode cX12_freightOf 175 = .ok (.iaload, 1) := by decide +kernel
theorem dX12_freightOf_176 : decode cX12_freightOf 176 = .ok (.iconst (-1), 1) := by decide +kernel
theorem dX12_freightOf_177 : decode cX12_freightOf 177 = .ok (.if_icmp .eq 47, 3) := by decide +kernel
theorem dX12_freightOf_180 : decode cX12_freightOf 180 = .ok (.aload_n 0, 1) := by decide +kernel
theorem dX12_freightOf_181 : decode cX12_freightOf 181 = .ok (.getfield 81, 3) := by decide +kernel
theorem dX12_freightOf_184 : decode cX12_freightOf 184 = .ok (.iload 11, 2) := by decide +kernel
theorem dX12_freightOf_186 : decode cX12_freightOf 186 = .ok (.iaload, 1) := by decide +kernel
theorem dX12_freightOf_187 : decode cX12_freightOf 187 = .ok (.istore 12, 2) := by decide +kernel
theorem dX12_freightOf_189 : decode cX12_freightOf 189 = .ok (.iload 9, 2) := by decide +kernel
theorem dX12_freightOf_191 : decode cX12_freightOf 191 = .ok (.aload_n 0, 1) := by decide +kernel
theorem dX12_freightOf_192 : decode cX12_freightOf 192 = .ok (.getfield 71, 3) := by decide +kernel
theorem dX12_freightOf_195 : decode cX12_freightOf 195 = .ok (.bipush 24, 2) := by decide +kernel
theorem dX12_freightOf_197 : decode cX12_freightOf 197 = .ok (.iload 11, 2) := by decide +kernel
theorem dX12_freightOf_199 : decode cX12_freightOf 199 = .ok (.imul, 1) := by decide +kernel
theorem dX12_freightOf_200 : decode cX12_freightOf 200 = .ok (.iload 12, 2) := by decide +kernel
theorem dX12_freightOf_202 : decode cX12_freightOf 202 = .ok (.iadd, 1) := by decide +kernel
theorem dX12_freightOf_203 : decode cX12_freightOf 203 = .ok (.iaload, 1) := by decide +kernel
theorem dX12_freightOf_204 : decode cX12_freightOf 204 = .ok (.invokestatic 226, 3) := by decide +kernel
theorem dX12_freightOf_207 : decode cX12_freightOf 207 = .ok (.istore 9, 2) := by decide +kernel
theorem dX12_freightOf_209 : decode cX12_freightOf 209 = .ok (.aload_n 0, 1) := by decide +kernel
theorem dX12_freightOf_210 : decode cX12_freightOf 210 = .ok (.getfield 81, 3) := by decide +kernel
theorem dX12_freightOf_213 : decode cX12_freightOf 213 = .ok (.bipush 24, 2) := by decide +kernel
theorem dX12_freightOf_215 : decode cX12_freightOf 215 = .ok (.iload 12, 2) := by decide +kernel
theorem dX12_freightOf_217 : decode cX12_freightOf 217 = .ok (.iadd, 1) := by decide +kernel
theorem dX12_freightOf_218 : decode cX12_freightOf 218 = .ok (.iaload, 1) := by decide +kernel
theorem dX12_freightOf_219 : decode cX12_freightOf 219 = .ok (.istore 11, 2) := by decide +kernel
theorem dX12_freightOf_221 : decode cX12_freightOf 221 = .ok (.goto (-52), 3) := by decide +kernel
theorem dX12_freightOf_224 : decode cX12_freightOf 224 = .ok (.iload 9, 2) := by decide +kernel
theorem dX12_freightOf_226 : decode cX12_freightOf 226 = .ok (.aload_n 0, 1) := by decide +kernel
theorem dX12_freightOf_227 : decode cX12_freightOf 227 = .ok (.getfield 65, 3) := by decide +kernel
theorem dX12_freightOf_230 : decode cX12_freightOf 230 = .ok (.iload 11, 2) := by decide +kernel
theorem dX12_freightOf_232 : decode cX12_freightOf 232 = .ok (.iaload, 1) := by decide +kernel
theorem dX12_freightOf_233 : decode cX12_freightOf 233 = .ok (.invokestatic 226, 3) := by decide +kernel
theorem dX12_freightOf_236 : decode cX12_freightOf 236 = .ok (.istore 9, 2) := by decide +kernel
theorem dX12_freightOf_238 : decode cX12_freightOf 238 = .ok (.aload_n 0, 1) := by decide +kernel
theorem dX12_freightOf_239 : decode cX12_freightOf 239 = .ok (.getfield 65, 3) := by decide +kernel
theorem dX12_freightOf_242 : decode cX12_freightOf 242 = .ok (.iload 11, 2) := by decide +kernel
theorem dX12_freightOf_244 : decode cX12_freightOf 244 = .ok (.dup2, 1) := by decide +kernel
theorem dX12_freightOf_245 : decode cX12_freightOf 245 = .ok (.iaload, 1) := by decide +kernel
theorem dX12_freightOf_246 : decode cX12_freightOf 246 = .ok (.iload 9, 2) := by decide +kernel
theorem dX12_freightOf_248 : decode cX12_freightOf 248 = .ok (.isub, 1) := by decide +kernel
theorem dX12_freightOf_249 : decode cX12_freightOf 249 = .ok (.iastore, 1) := by decide +kernel
theorem dX12_freightOf_250 : decode cX12_freightOf 250 = .ok (.aload_n 0, 1) := by decide +kernel
theorem dX12_freightOf_251 : decode cX12_freightOf 251 = .ok (.getfield 68, 3) := by decide +kernel
theorem dX12_freightOf_254 : decode cX12_freightOf 254 = .ok (.iload 8, 2) := by decide +kernel
theorem dX12_freightOf_256 : decode cX12_freightOf 256 = .ok (.dup2, 1) := by decide +kernel
theorem dX12_freightOf_257 : decode cX12_freightOf 257 = .ok (.iaload, 1) := by decide +kernel
theorem dX12_freightOf_258 : decode cX12_freightOf 258 = .ok (.iload 9, 2) := by decide +kernel
theorem dX12_freightOf_260 : decode cX12_freightOf 260 = .ok (.isub, 1) := by decide +kernel
theorem dX12_freightOf_261 : decode cX12_freightOf 261 = .ok (.iastore, 1) := by decide +kernel
theorem dX12_freightOf_262 : decode cX12_freightOf 262 = .ok (.iload 7, 2) := by decide +kernel
theorem dX12_freightOf_264 : decode cX12_freightOf 264 = .ok (.iload 9, 2) := by decide +kernel
theorem dX12_freightOf_266 : decode cX12_freightOf 266 = .ok (.isub, 1) := by decide +kernel
theorem dX12_freightOf_267 : decode cX12_freightOf 267 = .ok (.istore 7, 2) := by decide +kernel
theorem dX12_freightOf_269 : decode cX12_freightOf 269 = .ok (.lload 5, 2) := by decide +kernel
theorem dX12_freightOf_271 : decode cX12_freightOf 271 = .ok (.iload 9, 2) := by decide +kernel
theorem dX12_freightOf_273 : decode cX12_freightOf 273 = .ok (.i2l, 1) := by decide +kernel
theorem dX12_freightOf_274 : decode cX12_freightOf 274 = .ok (.aload_n 0, 1) := by decide +kernel
theorem dX12_freightOf_275 : decode cX12_freightOf 275 = .ok (.getfield 78, 3) := by decide +kernel
theorem dX12_freightOf_278 : decode cX12_freightOf 278 = .ok (.bipush 24, 2) := by decide +kernel
theorem dX12_freightOf_280 : decode cX12_freightOf 280 = .ok (.iload 8, 2) := by decide +kernel
theorem dX12_freightOf_282 : decode cX12_freightOf 282 = .ok (.iadd, 1) := by decide +kernel
theorem dX12_freightOf_283 : decode cX12_freightOf 283 = .ok (.laload, 1) := by decide +kernel
theorem dX12_freightOf_284 : decode cX12_freightOf 284 = .ok (.lmul, 1) := by decide +kernel
theorem dX12_freightOf_285 : decode cX12_freightOf 285 = .ok (.ladd, 1) := by decide +kernel
theorem dX12_freightOf_286 : decode cX12_freightOf 286 = .ok (.lstore 5, 2) := by decide +kernel
theorem dX12_freightOf_288 : decode cX12_freightOf 288 = .ok (.iload 8, 2) := by decide +kernel
theorem dX12_freightOf_290 : decode cX12_freightOf 290 = .ok (.istore 10, 2) := by decide +kernel
theorem dX12_freightOf_292 : decode cX12_freightOf 292 = .ok (.aload_n 0, 1) := by decide +kernel
theorem dX12_freightOf_293 : decode cX12_freightOf 293 = .ok (.getfield 81, 3) := by decide +kernel
theorem dX12_freightOf_296 : decode cX12_freightOf 296 = .ok (.bipush 24, 2) := by decide +kernel
theorem dX12_freightOf_298 : decode cX12_freightOf 298 = .ok (.iload 10, 2) := by decide +kernel
theorem dX12_freightOf_300 : decode cX12_freightOf 300 = .ok (.iadd, 1) := by decide +kernel
theorem dX12_freightOf_301 : decode cX12_freightOf 301 = .ok (.iaload, 1) := by decide +kernel
theorem dX12_freightOf_302 : decode cX12_freightOf 302 = .ok (.istore 11, 2) := by decide +kernel
theorem dX12_freightOf_304 : decode cX12_freightOf 304 = .ok (.aload_n 0, 1) := by decide +kernel
theorem dX12_freightOf_305 : decode cX12_freightOf 305 = .ok (.getfield 71, 3) := by decide +kernel
theorem dX12_freightOf_308 : decode cX12_freightOf 308 = .ok (.bipush 24, 2) := by decide +kernel
theorem dX12_freightOf_310 : decode cX12_freightOf 310 = .ok (.iload 11, 2) := by decide +kernel
theorem dX12_freightOf_312 : decode cX12_freightOf 312 = .ok (.imul, 1) := by decide +kernel
theorem dX12_freightOf_313 : decode cX12_freightOf 313 = .ok (.iload 10, 2) := by decide +kernel
theorem dX12_freightOf_315 : decode cX12_freightOf 315 = .ok (.iadd, 1) := by decide +kernel
theorem dX12_freightOf_316 : decode cX12_freightOf 316 = .ok (.dup2, 1) := by decide +kernel
theorem dX12_freightOf_317 : decode cX12_freightOf 317 = .ok (.iaload, 1) := by decide +kernel
theorem dX12_freightOf_318 : decode cX12_freightOf 318 = .ok (.iload 9, 2) := by decide +kernel
theorem dX12_freightOf_320 : decode cX12_freightOf 320 = .ok (.iadd, 1) := by decide +kernel
theorem dX12_freightOf_321 : decode cX12_freightOf 321 = .ok (.iastore, 1) := by decide +kernel
theorem dX12_freightOf_322 : decode cX12_freightOf 322 = .ok (.aload_n 0, 1) := by decide +kernel
theorem dX12_freightOf_323 : decode cX12_freightOf 323 = .ok (.getfield 81, 3) := by decide +kernel
theorem dX12_freightOf_326 : decode cX12_freightOf 326 = .ok (.iload 11, 2) := by decide +kernel
theorem dX12_freightOf_328 : decode cX12_freightOf 328 = .ok (.iaload, 1) := by decide +kernel
theorem dX12_freightOf_329 : decode cX12_freightOf 329 = .ok (.iconst (-1), 1) := by decide +kernel
theorem dX12_freightOf_330 : decode cX12_freightOf 330 = .ok (.if_icmp .eq 63, 3) := by decide +kernel
theorem dX12_freightOf_333 : decode cX12_freightOf 333 = .ok (.aload_n 0, 1) := by decide +kernel
theorem dX12_freightOf_334 : decode cX12_freightOf 334 = .ok (.getfield 81, 3) := by decide +kernel
theorem dX12_freightOf_337 : decode cX12_freightOf 337 = .ok (.iload 11, 2) := by decide +kernel
theorem dX12_freightOf_339 : decode cX12_freightOf 339 = .ok (.iaload, 1) := by decide +kernel
theorem dX12_freightOf_340 : decode cX12_freightOf 340 = .ok (.istore 12, 2) := by decide +kernel
theorem dX12_freightOf_342 : decode cX12_freightOf 342 = .ok (.aload_n 0, 1) := by decide +kernel
theorem dX12_freightOf_343 : decode cX12_freightOf 343 = .ok (.getfield 71, 3) := by decide +kernel
theorem dX12_freightOf_346 : decode cX12_freightOf 346 = .ok (.bipush 24, 2) := by decide +kernel
theorem dX12_freightOf_348 : decode cX12_freightOf 348 = .ok (.iload 11, 2) := by decide +kernel
theorem dX12_freightOf_350 : decode cX12_freightOf 350 = .ok (.imul, 1) := by decide +kernel
theorem dX12_freightOf_351 : decode cX12_freightOf 351 = .ok (.iload 12, 2) := by decide +kernel
theorem dX12_freightOf_353 : decode cX12_freightOf 353 = .ok (.iadd, 1) := by decide +kernel
theorem dX12_freightOf_354 : decode cX12_freightOf 354 = .ok (.dup2, 1) := by decide +kernel
theorem dX12_freightOf_355 : decode cX12_freightOf 355 = .ok (.iaload, 1) := by decide +kernel
theorem dX12_freightOf_356 : decode cX12_freightOf 356 = .ok (.iload 9, 2) := by decide +kernel
theorem dX12_freightOf_358 : decode cX12_freightOf 358 = .ok (.isub, 1) := by decide +kernel
theorem dX12_freightOf_359 : decode cX12_freightOf 359 = .ok (.iastore, 1) := by decide +kernel
theorem dX12_freightOf_360 : decode cX12_freightOf 360 = .ok (.aload_n 0, 1) := by decide +kernel
theorem dX12_freightOf_361 : decode cX12_freightOf 361 = .ok (.getfield 81, 3) := by decide +kernel
theorem dX12_freightOf_364 : decode cX12_freightOf 364 = .ok (.bipush 24, 2) := by decide +kernel
theorem dX12_freightOf_366 : decode cX12_freightOf 366 = .ok (.iload 12, 2) := by decide +kernel
theorem dX12_freightOf_368 : decode cX12_freightOf 368 = .ok (.iadd, 1) := by decide +kernel
theorem dX12_freightOf_369 : decode cX12_freightOf 369 = .ok (.iaload, 1) := by decide +kernel
theorem dX12_freightOf_370 : decode cX12_freightOf 370 = .ok (.istore 11, 2) := by decide +kernel
theorem dX12_freightOf_372 : decode cX12_freightOf 372 = .ok (.aload_n 0, 1) := by decide +kernel
theorem dX12_freightOf_373 : decode cX12_freightOf 373 = .ok (.getfield 71, 3) := by decide +kernel
theorem dX12_freightOf_376 : decode cX12_freightOf 376 = .ok (.bipush 24, 2) := by decide +kernel
theorem dX12_freightOf_378 : decode cX12_freightOf 378 = .ok (.iload 11, 2) := by decide +kernel
theorem dX12_freightOf_380 : decode cX12_freightOf 380 = .ok (.imul, 1) := by decide +kernel
theorem dX12_freightOf_381 : decode cX12_freightOf 381 = .ok (.iload 12, 2) := by decide +kernel
theorem dX12_freightOf_383 : decode cX12_freightOf 383 = .ok (.iadd, 1) := by decide +kernel
theorem dX12_freightOf_384 : decode cX12_freightOf 384 = .ok (.dup2, 1) := by decide +kernel
theorem dX12_freightOf_385 : decode cX12_freightOf 385 = .ok (.iaload, 1) := by decide +kernel
theorem dX12_freightOf_386 : decode cX12_freightOf 386 = .ok (.iload 9, 2) := by decide +kernel
theorem dX12_freightOf_388 : decode cX12_freightOf 388 = .ok (.iadd, 1) := by decide +kernel
theorem dX12_freightOf_389 : decode cX12_freightOf 389 = .ok (.iastore, 1) := by decide +kernel
theorem dX12_freightOf_390 : decode cX12_freightOf 390 = .ok (.goto (-68), 3) := by decide +kernel
theorem dX12_freightOf_393 : decode cX12_freightOf 393 = .ok (.goto (-337), 3) := by decide +kernel
theorem dX12_freightOf_396 : decode cX12_freightOf 396 = .ok (.lload 5, 2) := by decide +kernel
theorem dX12_freightOf_398 : decode cX12_freightOf 398 = .ok (.lreturn, 1) := by decide +kernel
set_option maxRecDepth 20000 in
theorem ggX12_freight_X12_isTune : GoodIn wsX12_freight wsX12_isTune := goodIn_r _ [6, 7, 8, 44, 45, 46, 47, 48, 49, 50, 51, 52, 53, 54, 55, 56, 57, 58, 59, 60, 61, 62, 63, 64, 65, 66, 67, 68, 69, 70, 71, 72, 73, 74, 75, 76, 77, 78, 79, 80, 81, 82, 83, 84] rfl (by decide +kernel)
set_option maxRecDepth 20000 in
theorem gX12_freight_X12_isTune : GoodIn wsX12_freight (wsV RX12 93 RX12 yX12_isTune wsX12_isTune) := goodIn_app (goodIn_of _ (by decide +kernel)) ggX12_freight_X12_isTune
set_option maxRecDepth 20000 in
theorem ggX12_freight_X12_freightOf : GoodIn wsX12_freight wsX12_freightOf := goodIn_r _ [12, 13, 14, 15, 16, 17, 18, 19, 20, 21, 22, 23, 24, 25, 26, 27, 28, 29, 30, 5, 31, 32, 33, 34, 35, 36, 37, 38, 39, 40, 41, 42, 43, 44, 45, 46, 47, 48, 49, 50, 51, 52, 53, 54, 55, 56, 57, 58, 59, 60, 61, 62, 63, 64, 65, 66, 67, 68, 69, 70, 71, 72, 73, 74, 75, 76, 77, 78, 79, 80, 81, 82, 83, 84] rfl (by decide +kernel)
set_option maxRecDepth 20000 in
theorem gX12_freight_X12_freightOf : GoodIn wsX12_freight (wsV RX12 260 RX12 yX12_freightOf wsX12_freightOf) := goodIn_app (goodIn_of _ (by decide +kernel)) ggX12_freight_X12_freightOf
theorem dX12_freight_0 : decode cX12_freight 0 = .ok (.aload_n 0, 1) := by decide +kernel
theorem dX12_freight_1 : decode cX12_freight 1 = .ok (.iload_n 1, 1) := by decide +kernel
theorem dX12_freight_2 : decode cX12_freight 2 = .ok (.invokevirtual 93, 3) := by decide +kernel
theorem dX12_freight_5 : decode cX12_freight 5 = .ok (.ifCond .eq 20, 3) := by decide +kernel
theorem dX12_freight_8 : decode cX12_freight 8 = .ok (.aload_n 0, 1) := by decide +kernel
theorem dX12_freight_9 : decode cX12_freight 9 = .ok (.iload_n 2, 1) := by decide +kernel
theorem dX12_freight_10 : decode cX12_freight 10 = .ok (.invokevirtual 93, 3) := by decide +kernel
theorem dX12_freight_13 : decode cX12_freight 13 = .ok (.ifCond .eq 12, 3) := by decide +kernel
theorem dX12_freight_16 : decode cX12_freight 16 = .ok (.aload_n 0, 1) := by decide +kernel
theorem dX12_freight_17 : decode cX12_freight 17 = .ok (.iload_n 1, 1) := by decide +kernel
theorem dX12_freight_18 : decode cX12_freight 18 = .ok (.iload_n 2, 1) := by decide +kernel
theorem dX12_freight_19 : decode cX12_freight 19 = .ok (.invokevirtual 260, 3) := by decide +kernel
theorem dX12_freight_22 : decode cX12_freight 22 = .ok (.goto 6, 3) := by decide +kernel
theorem dX12_freight_25 : decode cX12_freight 25 = .ok (.ldc2_w 264, 3) := by decide +kernel
theorem dX12_freight_28 : decode cX12_freight 28 = .ok (.lreturn, 1) := by decide +kernel
set_option maxRecDepth 20000 in
theorem ggX12_share_X12_isTune : GoodIn wsX12_share wsX12_isTune := goodIn_r _ [8, 1, 9, 44, 45, 46, 47, 48, 49, 50, 51, 52, 53, 54, 55, 56, 57, 58, 59, 60, 61, 62, 63, 64, 65, 66, 67, 68, 69, 70, 71, 72, 73, 74, 75, 76, 77, 78, 79, 80, 81, 82, 83, 84] rfl (by decide +kernel)
set_option maxRecDepth 20000 in
theorem gX12_share_X12_isTune : GoodIn wsX12_share (wsV RX12 93 RX12 yX12_isTune wsX12_isTune) := goodIn_app (goodIn_of _ (by decide +kernel)) ggX12_share_X12_isTune
set_option maxRecDepth 20000 in
theorem ggX12_share_X12_freightOf : GoodIn wsX12_share wsX12_freightOf := goodIn_r _ [13, 14, 15, 16, 17, 2, 18, 19, 20, 21, 22, 23, 24, 25, 26, 27, 28, 29, 30, 7, 31, 32, 33, 34, 35, 36, 37, 38, 39, 40, 41, 42, 43, 44, 45, 46, 47, 48, 49, 50, 51, 52, 53, 54, 55, 56, 57, 58, 59, 60, 61, 62, 63, 64, 65, 66, 67, 68, 69, 70, 71, 72, 73, 74, 75, 76, 77, 78, 79, 80, 81, 82, 83, 84] rfl (by decide +kernel)
set_option maxRecDepth 20000 in
theorem gX12_share_X12_freightOf : GoodIn wsX12_share (wsV RX12 260 RX12 yX12_freightOf wsX12_freightOf) := goodIn_app (goodIn_of _ (by decide +kernel)) ggX12_share_X12_freightOf
theorem dX12_share_0 : decode cX12_share 0 = .ok (.aload_n 0, 1) := by decide +kernel
theorem dX12_share_1 : decode cX12_share 1 = .ok (.iload_n 1, 1) := by decide +kernel
theorem dX12_share_2 : decode cX12_share 2 = .ok (.invokevirtual 93, 3) := by decide +kernel
theorem dX12_share_5 : decode cX12_share 5 = .ok (.ifCond .eq 11, 3) := by decide +kernel
theorem dX12_share_8 : decode cX12_share 8 = .ok (.aload_n 0, 1) := by decide +kernel
theorem dX12_share_9 : decode cX12_share 9 = .ok (.iload_n 2, 1) := by decide +kernel
theorem dX12_share_10 : decode cX12_share 10 = .ok (.invokevirtual 93, 3) := by decide +kernel
theorem dX12_share_13 : decode cX12_share 13 = .ok (.ifCond .ne 10, 3) := by decide +kernel
theorem dX12_share_16 : decode cX12_share 16 = .ok (.aload_n 0, 1) := by decide +kernel
theorem dX12_share_17 : decode cX12_share 17 = .ok (.iconst 1, 1) := by decide +kernel
theorem dX12_share_18 : decode cX12_share 18 = .ok (.putfield 87, 3) := by decide +kernel
theorem dX12_share_21 : decode cX12_share 21 = .ok (.lconst 0, 1) := by decide +kernel
theorem dX12_share_22 : decode cX12_share 22 = .ok (.lreturn, 1) := by decide +kernel
theorem dX12_share_23 : decode cX12_share 23 = .ok (.aload_n 0, 1) := by decide +kernel
theorem dX12_share_24 : decode cX12_share 24 = .ok (.iload_n 1, 1) := by decide +kernel
theorem dX12_share_25 : decode cX12_share 25 = .ok (.iload_n 2, 1) := by decide +kernel
theorem dX12_share_26 : decode cX12_share 26 = .ok (.invokevirtual 260, 3) := by decide +kernel
theorem dX12_share_29 : decode cX12_share 29 = .ok (.lstore_n 3, 1) := by decide +kernel
theorem dX12_share_30 : decode cX12_share 30 = .ok (.aload_n 0, 1) := by decide +kernel
theorem dX12_share_31 : decode cX12_share 31 = .ok (.getfield 250, 3) := by decide +kernel
theorem dX12_share_34 : decode cX12_share 34 = .ok (.lconst 0, 1) := by decide +kernel
theorem dX12_share_35 : decode cX12_share 35 = .ok (.lcmp, 1) := by decide +kernel
theorem dX12_share_36 : decode cX12_share 36 = .ok (.ifCond .ne 10, 3) := by decide +kernel
theorem dX12_share_39 : decode cX12_share 39 = .ok (.aload_n 0, 1) := by decide +kernel
theorem dX12_share_40 : decode cX12_share 40 = .ok (.iconst 2, 1) := by decide +kernel
theorem dX12_share_41 : decode cX12_share 41 = .ok (.putfield 87, 3) := by decide +kernel
theorem dX12_share_44 : decode cX12_share 44 = .ok (.lconst 0, 1) := by decide +kernel
theorem dX12_share_45 : decode cX12_share 45 = .ok (.lreturn, 1) := by decide +kernel
theorem dX12_share_46 : decode cX12_share 46 = .ok (.ldc2_w 266, 3) := by decide +kernel
theorem dX12_share_49 : decode cX12_share 49 = .ok (.lload_n 3, 1) := by decide +kernel
theorem dX12_share_50 : decode cX12_share 50 = .ok (.lmul, 1) := by decide +kernel
theorem dX12_share_51 : decode cX12_share 51 = .ok (.aload_n 0, 1) := by decide +kernel
theorem dX12_share_52 : decode cX12_share 52 = .ok (.getfield 250, 3) := by decide +kernel
theorem dX12_share_55 : decode cX12_share 55 = .ok (.ldiv, 1) := by decide +kernel
theorem dX12_share_56 : decode cX12_share 56 = .ok (.lreturn, 1) := by decide +kernel
set_option maxRecDepth 20000 in
theorem ggX12_families_X12_distanceOf : GoodIn wsX12_families wsX12_distanceOf := goodIn_r _ [13, 14, 15, 16, 17, 18, 12, 19, 20, 21, 22, 5, 6, 7, 8, 23, 24, 25, 26, 27, 28, 29, 30, 31, 32, 33, 34, 35, 36, 37, 38, 39, 40, 41, 42, 43, 44, 45, 46, 47, 48, 49, 50, 51, 52, 53, 54, 55, 56, 57, 58, 59, 60, 61, 62, 63, 64, 65, 66, 67, 68, 69, 70, 71] rfl (by decide +kernel)
set_option maxRecDepth 20000 in
theorem gX12_families_X12_distanceOf : GoodIn wsX12_families (wsV RX12 235 RX12 yX12_distanceOf wsX12_distanceOf) := goodIn_app (goodIn_of _ (by decide +kernel)) ggX12_families_X12_distanceOf
theorem dX12_families_0 : decode cX12_families 0 = .ok (.aload_n 0, 1) := by decide +kernel
theorem dX12_families_1 : decode cX12_families 1 = .ok (.iconst 0, 1) := by decide +kernel
theorem dX12_families_2 : decode cX12_families 2 = .ok (.putfield 87, 3) := by decide +kernel
theorem dX12_families_5 : decode cX12_families 5 = .ok (.iload_n 1, 1) := by decide +kernel
theorem dX12_families_6 : decode cX12_families 6 = .ok (.ifCond .ge 6, 3) := by decide +kernel
theorem dX12_families_9 : decode cX12_families 9 = .ok (.bipush (-2), 2) := by decide +kernel
theorem dX12_families_11 : decode cX12_families 11 = .ok (.ireturn, 1) := by decide +kernel
theorem dX12_families_12 : decode cX12_families 12 = .ok (.aload_n 0, 1) := by decide +kernel
theorem dX12_families_13 : decode cX12_families 13 = .ok (.aload_n 0, 1) := by decide +kernel
theorem dX12_families_14 : decode cX12_families 14 = .ok (.getfield 90, 3) := by decide +kernel
theorem dX12_families_17 : decode cX12_families 17 = .ok (.putfield 268, 3) := by decide +kernel
theorem dX12_families_20 : decode cX12_families 20 = .ok (.iconst 0, 1) := by decide +kernel
theorem dX12_families_21 : decode cX12_families 21 = .ok (.istore_n 2, 1) := by decide +kernel
theorem dX12_families_22 : decode cX12_families 22 = .ok (.iload_n 2, 1) := by decide +kernel
theorem dX12_families_23 : decode cX12_families 23 = .ok (.aload_n 0, 1) := by decide +kernel
theorem dX12_families_24 : decode cX12_families 24 = .ok (.getfield 90, 3) := by decide +kernel
theorem dX12_families_27 : decode cX12_families 27 = .ok (.if_icmp .ge 16, 3) := by decide +kernel
theorem dX12_families_30 : decode cX12_families 30 = .ok (.aload_n 0, 1) := by decide +kernel
theorem dX12_families_31 : decode cX12_families 31 = .ok (.getfield 84, 3) := by decide +kernel
theorem dX12_families_34 : decode cX12_families 34 = .ok (.iload_n 2, 1) := by decide +kernel
theorem dX12_families_35 : decode cX12_families 35 = .ok (.iload_n 2, 1) := by decide +kernel
theorem dX12_families_36 : decode cX12_families 36 = .ok (.iastore, 1) := by decide +kernel
theorem dX12_families_37 : decode cX12_families 37 = .ok (.iinc 2 1, 3) := by decide +kernel
theorem dX12_families_40 : decode cX12_families 40 = .ok (.goto (-18), 3) := by decide +kernel
theorem dX12_families_43 : decode cX12_families 43 = .ok (.iconst 0, 1) := by decide +kernel
theorem dX12_families_44 : decode cX12_families 44 = .ok (.istore_n 2, 1) := by decide +kernel
theorem dX12_families_45 : decode cX12_families 45 = .ok (.iload_n 2, 1) := by decide +kernel
theorem dX12_families_46 : decode cX12_families 46 = .ok (.aload_n 0, 1) := by decide +kernel
theorem dX12_families_47 : decode cX12_families 47 = .ok (.getfield 90, 3) := by decide +kernel
theorem dX12_families_50 : decode cX12_families 50 = .ok (.if_icmp .ge 150, 3) := by decide +kernel
theorem dX12_families_53 : decode cX12_families 53 = .ok (.iconst 0, 1) := by decide +kernel
theorem dX12_families_54 : decode cX12_families 54 = .ok (.istore_n 3, 1) := by decide +kernel
theorem dX12_families_55 : decode cX12_families 55 = .ok (.iload_n 3, 1) := by decide +kernel
theorem dX12_families_56 : decode cX12_families 56 = .ok (.aload_n 0, 1) := by decide +kernel
theorem dX12_families_57 : decode cX12_families 57 = .ok (.getfield 90, 3) := by decide +kernel
theorem dX12_families_60 : decode cX12_families 60 = .ok (.if_icmp .ge 134, 3) := by decide +kernel
theorem dX12_families_63 : decode cX12_families 63 = .ok (.iconst 0, 1) := by decide +kernel
theorem dX12_families_64 : decode cX12_families 64 = .ok (.istore 4, 2) := by decide +kernel
theorem dX12_families_66 : decode cX12_families 66 = .ok (.iload 4, 2) := by decide +kernel
theorem dX12_families_68 : decode cX12_families 68 = .ok (.iload_n 3, 1) := by decide +kernel
theorem dX12_families_69 : decode cX12_families 69 = .ok (.if_icmp .ge 119, 3) := by decide +kernel
theorem dX12_families_72 : decode cX12_families 72 = .ok (.aload_n 0, 1) := by decide +kernel
theorem dX12_families_73 : decode cX12_families 73 = .ok (.getfield 84, 3) := by decide +kernel
theorem dX12_families_76 : decode cX12_families 76 = .ok (.iload_n 3, 1) := by decide +kernel
theorem dX12_families_77 : decode cX12_families 77 = .ok (.iaload, 1) := by decide +kernel
theorem dX12_families_78 : decode cX12_families 78 = .ok (.aload_n 0, 1) := by decide +kernel
theorem dX12_families_79 : decode cX12_families 79 = .ok (.getfield 84, 3) := by decide +kernel
theorem dX12_families_82 : decode cX12_families 82 = .ok (.iload 4, 2) := by decide +kernel
theorem dX12_families_84 : decode cX12_families 84 = .ok (.iaload, 1) := by decide +kernel
theorem dX12_families_85 : decode cX12_families 85 = .ok (.if_icmp .eq 30, 3) := by decide +kernel
theorem dX12_families_88 : decode cX12_families 88 = .ok (.aload_n 0, 1) := by decide +kernel
theorem dX12_families_89 : decode cX12_families 89 = .ok (.iload_n 3, 1) := by decide +kernel
theorem dX12_families_90 : decode cX12_families 90 = .ok (.iload 4, 2) := by decide +kernel
theorem dX12_families_92 : decode cX12_families 92 = .ok (.iconst 0, 1) := by decide +kernel
theorem dX12_families_93 : decode cX12_families 93 = .ok (.invokevirtual 235, 3) := by decide +kernel
theorem dX12_families_96 : decode cX12_families 96 = .ok (.aload_n 0, 1) := by decide +kernel
theorem dX12_families_97 : decode cX12_families 97 = .ok (.iload 4, 2) := by decide +kernel
theorem dX12_families_99 : decode cX12_families 99 = .ok (.iload_n 3, 1) := by decide +kernel
theorem dX12_families_100 : decode cX12_families 100 = .ok (.iconst 0, 1) := by decide +kernel
theorem dX12_families_101 : decode cX12_families 101 = .ok (.invokevirtual 235, 3) := by decide +kernel
theorem dX12_families_104 : decode cX12_families 104 = .ok (.invokestatic 226, 3) := by decide +kernel
theorem dX12_families_107 : decode cX12_families 107 = .ok (.iload_n 1, 1) := by decide +kernel
theorem dX12_families_108 : decode cX12_families 108 = .ok (.if_icmp .gt 7, 3) := by decide +kernel
theorem dX12_families_111 : decode cX12_families 111 = .ok (.iconst 1, 1) := by decide +kernel
theorem dX12_families_112 : decode cX12_families 112 = .ok (.goto 4, 3) := by decide +kernel
theorem dX12_families_115 : decode cX12_families 115 = .ok (.iconst 0, 1) := by decide +kernel
theorem dX12_families_116 : decode cX12_families 116 = .ok (.istore 5, 2) := by decide +kernel
theorem dX12_families_118 : decode cX12_families 118 = .ok (.aload_n 0, 1) := by decide +kernel
theorem dX12_families_119 : decode cX12_families 119 = .ok (.getfield 84, 3) := by decide +kernel
theorem dX12_families_122 : decode cX12_families 122 = .ok (.iload_n 3, 1) := by decide +kernel
theorem dX12_families_123 : decode cX12_families 123 = .ok (.iaload, 1) := by decide +kernel
theorem dX12_families_124 : decode cX12_families 124 = .ok (.aload_n 0, 1) := by decide +kernel
theorem dX12_families_125 : decode cX12_families 125 = .ok (.getfield 84, 3) := by decide +kernel
theorem dX12_families_128 : decode cX12_families 128 = .ok (.iload 4, 2) := by decide +kernel
theorem dX12_families_130 : decode cX12_families 130 = .ok (.iaload, 1) := by decide +kernel
theorem dX12_families_131 : decode cX12_families 131 = .ok (.invokestatic 226, 3) := by decide +kernel
theorem dX12_families_134 : decode cX12_families 134 = .ok (.istore 6, 2) := by decide +kernel
theorem dX12_families_136 : decode cX12_families 136 = .ok (.aload_n 0, 1) := by decide +kernel
theorem dX12_families_137 : decode cX12_families 137 = .ok (.getfield 84, 3) := by decide +kernel
theorem dX12_families_140 : decode cX12_families 140 = .ok (.iload_n 3, 1) := by decide +kernel
theorem dX12_families_141 : decode cX12_families 141 = .ok (.iload 5, 2) := by decide +kernel
theorem dX12_families_143 : decode cX12_families 143 = .ok (.ifCond .eq 8, 3) := by decide +kernel
theorem dX12_families_146 : decode cX12_families 146 = .ok (.iload 6, 2) := by decide +kernel
theorem dX12_families_148 : decode cX12_families 148 = .ok (.goto 9, 3) := by decide +kernel
theorem dX12_families_151 : decode cX12_families 151 = .ok (.aload_n 0, 1) := by decide +kernel
theorem dX12_families_152 : decode cX12_families 152 = .ok (.getfield 84, 3) := by decide +kernel
theorem dX12_families_155 : decode cX12_families 155 = .ok (.iload_n 3, 1) := by decide +kernel
theorem dX12_families_156 : decode cX12_families 156 = .ok (.iaload, 1) := by decide +kernel
theorem dX12_families_157 : decode cX12_families 157 = .ok (.iastore, 1) := by decide +kernel
theorem dX12_families_158 : decode cX12_families 158 = .ok (.aload_n 0, 1) := by decide +kernel
theorem dX12_families_159 : decode cX12_families 159 = .ok (.getfield 84, 3) := by decide +kernel
theorem dX12_families_162 : decode cX12_families 162 = .ok (.iload 4, 2) := by decide +kernel
theorem dX12_families_164 : decode cX12_families 164 = .ok (.iload 5, 2) := by decide +kernel
theorem dX12_families_166 : decode cX12_families 166 = .ok (.ifCond .eq 8, 3) := by decide +kernel
theorem dX12_families_169 : decode cX12_families 169 = .ok (.iload 6, 2) := by decide +kernel
theorem dX12_families_171 : decode cX12_families 171 = .ok (.goto 10, 3) := by decide +kernel
theorem dX12_families_174 : decode cX12_families 174 = .ok (.aload_n 0, 1) := by decide +kernel
theorem dX12_families_175 : decode cX12_families 175 = .ok (.getfield 84, 3) := by decide +kernel
theorem dX12_families_178 : decode cX12_families 178 = .ok (.iload 4, 2) := by decide +kernel
theorem dX12_families_180 : decode cX12_families 180 = .ok (.iaload, 1) := by decide +kernel
theorem dX12_families_181 : decode cX12_families 181 = .ok (.iastore, 1) := by decide +kernel
theorem dX12_families_182 : decode cX12_families 182 = .ok (.iinc 4 1, 3) := by decide +kernel
theorem dX12_families_185 : decode cX12_families 185 = .ok (.goto (-119), 3) := by decide +kernel
theorem dX12_families_188 : decode cX12_families 188 = .ok (.iinc 3 1, 3) := by decide +kernel
theorem dX12_families_191 : decode cX12_families 191 = .ok (.goto (-136), 3) := by decide +kernel
theorem dX12_families_194 : decode cX12_families 194 = .ok (.iinc 2 1, 3) := by decide +kernel
theorem dX12_families_197 : decode cX12_families 197 = .ok (.goto (-152), 3) := by decide +kernel
theorem dX12_families_200 : decode cX12_families 200 = .ok (.iconst 0, 1) := by decide +kernel
theorem dX12_families_201 : decode cX12_families 201 = .ok (.istore_n 2, 1) := by decide +kernel
theorem dX12_families_202 : decode cX12_families 202 = .ok (.iconst 0, 1) := by decide +kernel
theorem dX12_families_203 : decode cX12_families 203 = .ok (.istore_n 3, 1) := by decide +kernel
theorem dX12_families_204 : decode cX12_families 204 = .ok (.iload_n 3, 1) := by decide +kernel
theorem dX12_families_205 : decode cX12_families 205 = .ok (.aload_n 0, 1) := by decide +kernel
theorem dX12_families_206 : decode cX12_families 206 = .ok (.getfield 90, 3) := by decide +kernel
theorem dX12_families_209 : decode cX12_families 209 = .ok (.if_icmp .ge 27, 3) := by decide +kernel
theorem dX12_families_212 : decode cX12_families 212 = .ok (.iload_n 2, 1) := by decide +kernel
theorem dX12_families_213 : decode cX12_families 213 = .ok (.aload_n 0, 1) := by decide +kernel
theorem dX12_families_214 : decode cX12_families 214 = .ok (.getfield 84, 3) := by decide +kernel
theorem dX12_families_217 : decode cX12_families 217 = .ok (.iload_n 3, 1) := by decide +kernel
theorem dX12_families_218 : decode cX12_families 218 = .ok (.iaload, 1) := by decide +kernel
theorem dX12_families_219 : decode cX12_families 219 = .ok (.iload_n 3, 1) := by decide +kernel
theorem dX12_families_220 : decode cX12_families 220 = .ok (.if_icmp .ne 7, 3) := by decide +kernel
theorem dX12_families_223 : decode cX12_families 223 = .ok (.iconst 1, 1) := by decide +kernel
theorem dX12_families_224 : decode cX12_families 224 = .ok (.goto 4, 3) := by decide +kernel
theorem dX12_families_227 : decode cX12_families 227 = .ok (.iconst 0, 1) := by decide +kernel
theorem dX12_families_228 : decode cX12_families 228 = .ok (.iadd, 1) := by decide +kernel
theorem dX12_families_229 : decode cX12_families 229 = .ok (.istore_n 2, 1) := by decide +kernel
theorem dX12_families_230 : decode cX12_families 230 = .ok (.iinc 3 1, 3) := by decide +kernel
theorem dX12_families_233 : decode cX12_families 233 = .ok (.goto (-29), 3) := by decide +kernel
theorem dX12_families_236 : decode cX12_families 236 = .ok (.iload_n 2, 1) := by decide +kernel
theorem dX12_families_237 : decode cX12_families 237 = .ok (.ireturn, 1) := by decide +kernel
theorem dX12_family_0 : decode cX12_family 0 = .ok (.aload_n 0, 1) := by decide +kernel
theorem dX12_family_1 : decode cX12_family 1 = .ok (.iconst 0, 1) := by decide +kernel
theorem dX12_family_2 : decode cX12_family 2 = .ok (.putfield 87, 3) := by decide +kernel
theorem dX12_family_5 : decode cX12_family 5 = .ok (.iload_n 1, 1) := by decide +kernel
theorem dX12_family_6 : decode cX12_family 6 = .ok (.ifCond .lt 20, 3) := by decide +kernel
theorem dX12_family_9 : decode cX12_family 9 = .ok (.iload_n 1, 1) := by decide +kernel
theorem dX12_family_10 : decode cX12_family 10 = .ok (.aload_n 0, 1) := by decide +kernel
theorem dX12_family_11 : decode cX12_family 11 = .ok (.getfield 268, 3) := by decide +kernel
theorem dX12_family_14 : decode cX12_family 14 = .ok (.if_icmp .ge 12, 3) := by decide +kernel
theorem dX12_family_17 : decode cX12_family 17 = .ok (.aload_n 0, 1) := by decide +kernel
theorem dX12_family_18 : decode cX12_family 18 = .ok (.getfield 84, 3) := by decide +kernel
theorem dX12_family_21 : decode cX12_family 21 = .ok (.iload_n 1, 1) := by decide +kernel
theorem dX12_family_22 : decode cX12_family 22 = .ok (.iaload, 1) := by decide +kernel
theorem dX12_family_23 : decode cX12_family 23 = .ok (.goto 4, 3) := by decide +kernel
theorem dX12_family_26 : decode cX12_family 26 = .ok (.iconst (-1), 1) := by decide +kernel
theorem dX12_family_27 : decode cX12_family 27 = .ok (.ireturn, 1) := by decide +kernel
theorem dX12_told_0 : decode cX12_told 0 = .ok (.aload_n 0, 1) := by decide +kernel
theorem dX12_told_1 : decode cX12_told 1 = .ok (.iconst 0, 1) := by decide +kernel
theorem dX12_told_2 : decode cX12_told 2 = .ok (.putfield 87, 3) := by decide +kernel
theorem dX12_told_5 : decode cX12_told 5 = .ok (.iload_n 1, 1) := by decide +kernel
theorem dX12_told_6 : decode cX12_told 6 = .ok (.tableswitch 86 0 4 #[34, 39, 68, 76, 81], 34) := by decide +kernel
theorem dX12_told_40 : decode cX12_told 40 = .ok (.aload_n 0, 1) := by decide +kernel
theorem dX12_told_41 : decode cX12_told 41 = .ok (.getfield 90, 3) := by decide +kernel
theorem dX12_told_44 : decode cX12_told 44 = .ok (.ireturn, 1) := by decide +kernel
theorem dX12_told_45 : decode cX12_told 45 = .ok (.iconst 0, 1) := by decide +kernel
theorem dX12_told_46 : decode cX12_told 46 = .ok (.istore_n 2, 1) := by decide +kernel
theorem dX12_told_47 : decode cX12_told 47 = .ok (.iconst 0, 1) := by decide +kernel
theorem dX12_told_48 : decode cX12_told 48 = .ok (.istore_n 3, 1) := by decide +kernel
theorem dX12_told_49 : decode cX12_told 49 = .ok (.iload_n 3, 1) := by decide +kernel
theorem dX12_told_50 : decode cX12_told 50 = .ok (.aload_n 0, 1) := by decide +kernel
theorem dX12_told_51 : decode cX12_told 51 = .ok (.getfield 90, 3) := by decide +kernel
theorem dX12_told_54 : decode cX12_told 54 = .ok (.if_icmp .ge 18, 3) := by decide +kernel
theorem dX12_told_57 : decode cX12_told 57 = .ok (.iload_n 2, 1) := by decide +kernel
theorem dX12_told_58 : decode cX12_told 58 = .ok (.aload_n 0, 1) := by decide +kernel
theorem dX12_told_59 : decode cX12_told 59 = .ok (.getfield 18, 3) := by decide +kernel
theorem dX12_told_62 : decode cX12_told 62 = .ok (.iload_n 3, 1) := by decide +kernel
theorem dX12_told_63 : decode cX12_told 63 = .ok (.iaload, 1) := by decide +kernel
theorem dX12_told_64 : decode cX12_told 64 = .ok (.iadd, 1) := by decide +kernel
theorem dX12_told_65 : decode cX12_told 65 = .ok (.istore_n 2, 1) := by decide +kernel
theorem dX12_told_66 : decode cX12_told 66 = .ok (.iinc 3 1, 3) := by decide +kernel
theorem dX12_told_69 : decode cX12_told 69 = .ok (.goto (-20), 3) := by decide +kernel
theorem dX12_told_72 : decode cX12_told 72 = .ok (.iload_n 2, 1) := by decide +kernel
theorem dX12_told_73 : decode cX12_told 73 = .ok (.ireturn, 1) := by decide +kernel
theorem dX12_told_74 : decode cX12_told 74 = .ok (.aload_n 0, 1) := by decide +kernel
theorem dX12_told_75 : decode cX12_told 75 = .ok (.getfield 18, 3) := by decide +kernel
theorem dX12_told_78 : decode cX12_told 78 = .ok (.bipush 8, 2) := by decide +kernel
theorem dX12_told_80 : decode cX12_told 80 = .ok (.iaload, 1) := by decide +kernel
theorem dX12_told_81 : decode cX12_told 81 = .ok (.ireturn, 1) := by decide +kernel
theorem dX12_told_82 : decode cX12_told 82 = .ok (.aload_n 0, 1) := by decide +kernel
theorem dX12_told_83 : decode cX12_told 83 = .ok (.getfield 101, 3) := by decide +kernel
theorem dX12_told_86 : decode cX12_told 86 = .ok (.ireturn, 1) := by decide +kernel
theorem dX12_told_87 : decode cX12_told 87 = .ok (.aload_n 0, 1) := by decide +kernel
theorem dX12_told_88 : decode cX12_told 88 = .ok (.getfield 204, 3) := by decide +kernel
theorem dX12_told_91 : decode cX12_told 91 = .ok (.ireturn, 1) := by decide +kernel
theorem dX12_told_92 : decode cX12_told 92 = .ok (.bipush (-2), 2) := by decide +kernel
theorem dX12_told_94 : decode cX12_told 94 = .ok (.ireturn, 1) := by decide +kernel
theorem dJ11_isValidCodePoint_9a6ad_0 : decode cJ11_isValidCodePoint_9a6ad 0 = .ok (.iload_n 0, 1) := by decide +kernel
theorem dJ11_isValidCodePoint_9a6ad_1 : decode cJ11_isValidCodePoint_9a6ad 1 = .ok (.bipush 16, 2) := by decide +kernel
theorem dJ11_isValidCodePoint_9a6ad_3 : decode cJ11_isValidCodePoint_9a6ad 3 = .ok (.iushr, 1) := by decide +kernel
theorem dJ11_isValidCodePoint_9a6ad_4 : decode cJ11_isValidCodePoint_9a6ad 4 = .ok (.istore_n 1, 1) := by decide +kernel
theorem dJ11_isValidCodePoint_9a6ad_5 : decode cJ11_isValidCodePoint_9a6ad 5 = .ok (.iload_n 1, 1) := by decide +kernel
theorem dJ11_isValidCodePoint_9a6ad_6 : decode cJ11_isValidCodePoint_9a6ad 6 = .ok (.bipush 17, 2) := by decide +kernel
theorem dJ11_isValidCodePoint_9a6ad_8 : decode cJ11_isValidCodePoint_9a6ad 8 = .ok (.if_icmp .ge 7, 3) := by decide +kernel
theorem dJ11_isValidCodePoint_9a6ad_11 : decode cJ11_isValidCodePoint_9a6ad 11 = .ok (.iconst 1, 1) := by decide +kernel
theorem dJ11_isValidCodePoint_9a6ad_12 : decode cJ11_isValidCodePoint_9a6ad 12 = .ok (.goto 4, 3) := by decide +kernel
theorem dJ11_isValidCodePoint_9a6ad_15 : decode cJ11_isValidCodePoint_9a6ad 15 = .ok (.iconst 0, 1) := by decide +kernel
theorem dJ11_isValidCodePoint_9a6ad_16 : decode cJ11_isValidCodePoint_9a6ad 16 = .ok (.ireturn, 1) := by decide +kernel
theorem dJ11_highSurrogate_5068e_0 : decode cJ11_highSurrogate_5068e 0 = .ok (.iload_n 0, 1) := by decide +kernel
theorem dJ11_highSurrogate_5068e_1 : decode cJ11_highSurrogate_5068e 1 = .ok (.bipush 10, 2) := by decide +kernel
theorem dJ11_highSurrogate_5068e_3 : decode cJ11_highSurrogate_5068e 3 = .ok (.iushr, 1) := by decide +kernel
theorem dJ11_highSurrogate_5068e_4 : decode cJ11_highSurrogate_5068e 4 = .ok (.ldc 110, 2) := by decide +kernel
theorem dJ11_highSurrogate_5068e_6 : decode cJ11_highSurrogate_5068e 6 = .ok (.iadd, 1) := by decide +kernel
theorem dJ11_highSurrogate_5068e_7 : decode cJ11_highSurrogate_5068e 7 = .ok (.i2c, 1) := by decide +kernel
theorem dJ11_highSurrogate_5068e_8 : decode cJ11_highSurrogate_5068e 8 = .ok (.ireturn, 1) := by decide +kernel

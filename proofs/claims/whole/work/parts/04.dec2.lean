theorem dX12_pair_0 : decode cX12_pair 0 = .ok (.aload_n 0, 1) := by decide +kernel
theorem dX12_pair_1 : decode cX12_pair 1 = .ok (.getfield 11, 3) := by decide +kernel
theorem dX12_pair_4 : decode cX12_pair 4 = .ok (.iload_n 1, 1) := by decide +kernel
theorem dX12_pair_5 : decode cX12_pair 5 = .ok (.iaload, 1) := by decide +kernel
theorem dX12_pair_6 : decode cX12_pair 6 = .ok (.istore 4, 2) := by decide +kernel
theorem dX12_pair_8 : decode cX12_pair 8 = .ok (.aload_n 0, 1) := by decide +kernel
theorem dX12_pair_9 : decode cX12_pair 9 = .ok (.getfield 11, 3) := by decide +kernel
theorem dX12_pair_12 : decode cX12_pair 12 = .ok (.iload_n 2, 1) := by decide +kernel
theorem dX12_pair_13 : decode cX12_pair 13 = .ok (.iaload, 1) := by decide +kernel
theorem dX12_pair_14 : decode cX12_pair 14 = .ok (.istore 5, 2) := by decide +kernel
theorem dX12_pair_16 : decode cX12_pair 16 = .ok (.iload 4, 2) := by decide +kernel
theorem dX12_pair_18 : decode cX12_pair 18 = .ok (.ifCond .ge 12, 3) := by decide +kernel
theorem dX12_pair_21 : decode cX12_pair 21 = .ok (.iload 5, 2) := by decide +kernel
theorem dX12_pair_23 : decode cX12_pair 23 = .ok (.ifCond .ge 7, 3) := by decide +kernel
theorem dX12_pair_26 : decode cX12_pair 26 = .ok (.iconst 0, 1) := by decide +kernel
theorem dX12_pair_27 : decode cX12_pair 27 = .ok (.goto 39, 3) := by decide +kernel
theorem dX12_pair_30 : decode cX12_pair 30 = .ok (.iload 4, 2) := by decide +kernel
theorem dX12_pair_32 : decode cX12_pair 32 = .ok (.ifCond .lt 8, 3) := by decide +kernel
theorem dX12_pair_35 : decode cX12_pair 35 = .ok (.iload 5, 2) := by decide +kernel
theorem dX12_pair_37 : decode cX12_pair 37 = .ok (.ifCond .ge 12, 3) := by decide +kernel
theorem dX12_pair_40 : decode cX12_pair 40 = .ok (.aload_n 0, 1) := by decide +kernel
theorem dX12_pair_41 : decode cX12_pair 41 = .ok (.getfield 21, 3) := by decide +kernel
theorem dX12_pair_44 : decode cX12_pair 44 = .ok (.iconst 4, 1) := by decide +kernel
theorem dX12_pair_45 : decode cX12_pair 45 = .ok (.iaload, 1) := by decide +kernel
theorem dX12_pair_46 : decode cX12_pair 46 = .ok (.goto 20, 3) := by decide +kernel
theorem dX12_pair_49 : decode cX12_pair 49 = .ok (.aload_n 0, 1) := by decide +kernel
theorem dX12_pair_50 : decode cX12_pair 50 = .ok (.getfield 21, 3) := by decide +kernel
theorem dX12_pair_53 : decode cX12_pair 53 = .ok (.iconst 0, 1) := by decide +kernel
theorem dX12_pair_54 : decode cX12_pair 54 = .ok (.iaload, 1) := by decide +kernel
theorem dX12_pair_55 : decode cX12_pair 55 = .ok (.iload 4, 2) := by decide +kernel
theorem dX12_pair_57 : decode cX12_pair 57 = .ok (.iload_n 3, 1) := by decide +kernel
theorem dX12_pair_58 : decode cX12_pair 58 = .ok (.iadd, 1) := by decide +kernel
theorem dX12_pair_59 : decode cX12_pair 59 = .ok (.iload 5, 2) := by decide +kernel
theorem dX12_pair_61 : decode cX12_pair 61 = .ok (.isub, 1) := by decide +kernel
theorem dX12_pair_62 : decode cX12_pair 62 = .ok (.invokestatic 220, 3) := by decide +kernel
theorem dX12_pair_65 : decode cX12_pair 65 = .ok (.imul, 1) := by decide +kernel
theorem dX12_pair_66 : decode cX12_pair 66 = .ok (.ireturn, 1) := by decide +kernel
set_option maxRecDepth 20000 in
theorem ggX12_ways_X12_pair : GoodIn wsX12_ways wsX12_pair := goodIn_r _ [16, 17, 2, 9, 10, 7, 11, 18, 19, 20, 21, 22, 23, 24, 25, 26, 27, 28, 29, 30, 31, 32, 33, 34, 35, 36, 37, 38, 39, 40, 41, 42, 43, 44, 45, 46, 47, 48, 49, 50, 51, 52, 53, 54, 55, 56, 57, 58] (by decide +kernel) (by decide +kernel)
set_option maxRecDepth 20000 in
theorem gX12_ways_X12_pair : GoodIn wsX12_ways (wsV RX12 229 RX12 yX12_pair wsX12_pair) := goodIn_app (goodIn_of _ (by decide +kernel)) ggX12_ways_X12_pair
theorem dX12_ways_0 : decode cX12_ways 0 = .ok (.bipush 25, 2) := by decide +kernel
theorem dX12_ways_2 : decode cX12_ways 2 = .ok (.istore 6, 2) := by decide +kernel
theorem dX12_ways_4 : decode cX12_ways 4 = .ok (.iload_n 2, 1) := by decide +kernel
theorem dX12_ways_5 : decode cX12_ways 5 = .ok (.istore 7, 2) := by decide +kernel
theorem dX12_ways_7 : decode cX12_ways 7 = .ok (.iload 7, 2) := by decide +kernel
theorem dX12_ways_9 : decode cX12_ways 9 = .ok (.ifCond .lt 413, 3) := by decide +kernel
theorem dX12_ways_12 : decode cX12_ways 12 = .ok (.iload 4, 2) := by decide +kernel
theorem dX12_ways_14 : decode cX12_ways 14 = .ok (.istore 8, 2) := by decide +kernel
theorem dX12_ways_16 : decode cX12_ways 16 = .ok (.iload 8, 2) := by decide +kernel
theorem dX12_ways_18 : decode cX12_ways 18 = .ok (.ifCond .lt 398, 3) := by decide +kernel
theorem dX12_ways_21 : decode cX12_ways 21 = .ok (.iload 7, 2) := by decide +kernel
theorem dX12_ways_23 : decode cX12_ways 23 = .ok (.iload_n 2, 1) := by decide +kernel
theorem dX12_ways_24 : decode cX12_ways 24 = .ok (.if_icmp .ne 14, 3) := by decide +kernel
theorem dX12_ways_27 : decode cX12_ways 27 = .ok (.iload 8, 2) := by decide +kernel
theorem dX12_ways_29 : decode cX12_ways 29 = .ok (.iload 4, 2) := by decide +kernel
theorem dX12_ways_31 : decode cX12_ways 31 = .ok (.if_icmp .ne 7, 3) := by decide +kernel
theorem dX12_ways_34 : decode cX12_ways 34 = .ok (.iconst 0, 1) := by decide +kernel
theorem dX12_ways_35 : decode cX12_ways 35 = .ok (.goto 5, 3) := by decide +kernel
theorem dX12_ways_38 : decode cX12_ways 38 = .ok (.ldc 225, 2) := by decide +kernel
theorem dX12_ways_40 : decode cX12_ways 40 = .ok (.istore 9, 2) := by decide +kernel
theorem dX12_ways_42 : decode cX12_ways 42 = .ok (.iload 7, 2) := by decide +kernel
theorem dX12_ways_44 : decode cX12_ways 44 = .ok (.iload_n 2, 1) := by decide +kernel
theorem dX12_ways_45 : decode cX12_ways 45 = .ok (.if_icmp .ge 42, 3) := by decide +kernel
theorem dX12_ways_48 : decode cX12_ways 48 = .ok (.iload 9, 2) := by decide +kernel
theorem dX12_ways_50 : decode cX12_ways 50 = .ok (.aload_n 0, 1) := by decide +kernel
theorem dX12_ways_51 : decode cX12_ways 51 = .ok (.getfield 21, 3) := by decide +kernel
theorem dX12_ways_54 : decode cX12_ways 54 = .ok (.iconst 2, 1) := by decide +kernel
theorem dX12_ways_55 : decode cX12_ways 55 = .ok (.iaload, 1) := by decide +kernel
theorem dX12_ways_56 : decode cX12_ways 56 = .ok (.aload_n 0, 1) := by decide +kernel
theorem dX12_ways_57 : decode cX12_ways 57 = .ok (.getfield 15, 3) := by decide +kernel
theorem dX12_ways_60 : decode cX12_ways 60 = .ok (.iload_n 1, 1) := by decide +kernel
theorem dX12_ways_61 : decode cX12_ways 61 = .ok (.iload 7, 2) := by decide +kernel
theorem dX12_ways_63 : decode cX12_ways 63 = .ok (.iadd, 1) := by decide +kernel
theorem dX12_ways_64 : decode cX12_ways 64 = .ok (.iaload, 1) := by decide +kernel
theorem dX12_ways_65 : decode cX12_ways 65 = .ok (.imul, 1) := by decide +kernel
theorem dX12_ways_66 : decode cX12_ways 66 = .ok (.aload_n 0, 1) := by decide +kernel
theorem dX12_ways_67 : decode cX12_ways 67 = .ok (.getfield 47, 3) := by decide +kernel
theorem dX12_ways_70 : decode cX12_ways 70 = .ok (.iload 6, 2) := by decide +kernel
theorem dX12_ways_72 : decode cX12_ways 72 = .ok (.iload 7, 2) := by decide +kernel
theorem dX12_ways_74 : decode cX12_ways 74 = .ok (.iconst 1, 1) := by decide +kernel
theorem dX12_ways_75 : decode cX12_ways 75 = .ok (.iadd, 1) := by decide +kernel
theorem dX12_ways_76 : decode cX12_ways 76 = .ok (.imul, 1) := by decide +kernel
theorem dX12_ways_77 : decode cX12_ways 77 = .ok (.iload 8, 2) := by decide +kernel
theorem dX12_ways_79 : decode cX12_ways 79 = .ok (.iadd, 1) := by decide +kernel
theorem dX12_ways_80 : decode cX12_ways 80 = .ok (.iaload, 1) := by decide +kernel
theorem dX12_ways_81 : decode cX12_ways 81 = .ok (.iadd, 1) := by decide +kernel
theorem dX12_ways_82 : decode cX12_ways 82 = .ok (.invokestatic 226, 3) := by decide +kernel
theorem dX12_ways_85 : decode cX12_ways 85 = .ok (.istore 9, 2) := by decide +kernel
theorem dX12_ways_87 : decode cX12_ways 87 = .ok (.iload 8, 2) := by decide +kernel
theorem dX12_ways_89 : decode cX12_ways 89 = .ok (.iload 4, 2) := by decide +kernel
theorem dX12_ways_91 : decode cX12_ways 91 = .ok (.if_icmp .ge 42, 3) := by decide +kernel
theorem dX12_ways_94 : decode cX12_ways 94 = .ok (.iload 9, 2) := by decide +kernel
theorem dX12_ways_96 : decode cX12_ways 96 = .ok (.aload_n 0, 1) := by decide +kernel
theorem dX12_ways_97 : decode cX12_ways 97 = .ok (.getfield 21, 3) := by decide +kernel
theorem dX12_ways_100 : decode cX12_ways 100 = .ok (.iconst 3, 1) := by decide +kernel
theorem dX12_ways_101 : decode cX12_ways 101 = .ok (.iaload, 1) := by decide +kernel
theorem dX12_ways_102 : decode cX12_ways 102 = .ok (.aload_n 0, 1) := by decide +kernel
theorem dX12_ways_103 : decode cX12_ways 103 = .ok (.getfield 15, 3) := by decide +kernel
theorem dX12_ways_106 : decode cX12_ways 106 = .ok (.iload_n 3, 1) := by decide +kernel
theorem dX12_ways_107 : decode cX12_ways 107 = .ok (.iload 8, 2) := by decide +kernel
theorem dX12_ways_109 : decode cX12_ways 109 = .ok (.iadd, 1) := by decide +kernel
theorem dX12_ways_110 : decode cX12_ways 110 = .ok (.iaload, 1) := by decide +kernel
theorem dX12_ways_111 : decode cX12_ways 111 = .ok (.imul, 1) := by decide +kernel
theorem dX12_ways_112 : decode cX12_ways 112 = .ok (.aload_n 0, 1) := by decide +kernel
theorem dX12_ways_113 : decode cX12_ways 113 = .ok (.getfield 47, 3) := by decide +kernel
theorem dX12_ways_116 : decode cX12_ways 116 = .ok (.iload 6, 2) := by decide +kernel
theorem dX12_ways_118 : decode cX12_ways 118 = .ok (.iload 7, 2) := by decide +kernel
theorem dX12_ways_120 : decode cX12_ways 120 = .ok (.imul, 1) := by decide +kernel
theorem dX12_ways_121 : decode cX12_ways 121 = .ok (.iload 8, 2) := by decide +kernel
theorem dX12_ways_123 : decode cX12_ways 123 = .ok (.iadd, 1) := by decide +kernel
theorem dX12_ways_124 : decode cX12_ways 124 = .ok (.iconst 1, 1) := by decide +kernel
theorem dX12_ways_125 : decode cX12_ways 125 = .ok (.iadd, 1) := by decide +kernel
theorem dX12_ways_126 : decode cX12_ways 126 = .ok (.iaload, 1) := by decide +kernel
theorem dX12_ways_127 : decode cX12_ways 127 = .ok (.iadd, 1) := by decide +kernel
theorem dX12_ways_128 : decode cX12_ways 128 = .ok (.invokestatic 226, 3) := by decide +kernel
theorem dX12_ways_131 : decode cX12_ways 131 = .ok (.istore 9, 2) := by decide +kernel
theorem dX12_ways_133 : decode cX12_ways 133 = .ok (.iconst 0, 1) := by decide +kernel
theorem dX12_ways_134 : decode cX12_ways 134 = .ok (.istore 10, 2) := by decide +kernel
theorem dX12_ways_136 : decode cX12_ways 136 = .ok (.iconst 0, 1) := by decide +kernel
theorem dX12_ways_137 : decode cX12_ways 137 = .ok (.istore 11, 2) := by decide +kernel
theorem dX12_ways_139 : decode cX12_ways 139 = .ok (.iconst 1, 1) := by decide +kernel
theorem dX12_ways_140 : decode cX12_ways 140 = .ok (.istore 12, 2) := by decide +kernel
theorem dX12_ways_142 : decode cX12_ways 142 = .ok (.iload 12, 2) := by decide +kernel
theorem dX12_ways_144 : decode cX12_ways 144 = .ok (.iconst 4, 1) := by decide +kernel
theorem dX12_ways_145 : decode cX12_ways 145 = .ok (.if_icmp .gt 119, 3) := by decide +kernel
theorem dX12_ways_148 : decode cX12_ways 148 = .ok (.iload 7, 2) := by decide +kernel
theorem dX12_ways_150 : decode cX12_ways 150 = .ok (.iload_n 2, 1) := by decide +kernel
theorem dX12_ways_151 : decode cX12_ways 151 = .ok (.if_icmp .ge 113, 3) := by decide +kernel
theorem dX12_ways_154 : decode cX12_ways 154 = .ok (.iload 8, 2) := by decide +kernel
theorem dX12_ways_156 : decode cX12_ways 156 = .ok (.iload 12, 2) := by decide +kernel
theorem dX12_ways_158 : decode cX12_ways 158 = .ok (.iadd, 1) := by decide +kernel
theorem dX12_ways_159 : decode cX12_ways 159 = .ok (.iload 4, 2) := by decide +kernel
theorem dX12_ways_161 : decode cX12_ways 161 = .ok (.if_icmp .gt 103, 3) := by decide +kernel
theorem dX12_ways_164 : decode cX12_ways 164 = .ok (.iload 10, 2) := by decide +kernel
theorem dX12_ways_166 : decode cX12_ways 166 = .ok (.aload_n 0, 1) := by decide +kernel
theorem dX12_ways_167 : decode cX12_ways 167 = .ok (.iload_n 1, 1) := by decide +kernel
theorem dX12_ways_168 : decode cX12_ways 168 = .ok (.iload 7, 2) := by decide +kernel
theorem dX12_ways_170 : decode cX12_ways 170 = .ok (.iadd, 1) := by decide +kernel
theorem dX12_ways_171 : decode cX12_ways 171 = .ok (.iload_n 3, 1) := by decide +kernel
theorem dX12_ways_172 : decode cX12_ways 172 = .ok (.iload 8, 2) := by decide +kernel
theorem dX12_ways_174 : decode cX12_ways 174 = .ok (.iadd, 1) := by decide +kernel
theorem dX12_ways_175 : decode cX12_ways 175 = .ok (.iload 12, 2) := by decide +kernel
theorem dX12_ways_177 : decode cX12_ways 177 = .ok (.iadd, 1) := by decide +kernel
theorem dX12_ways_178 : decode cX12_ways 178 = .ok (.iconst 1, 1) := by decide +kernel
theorem dX12_ways_179 : decode cX12_ways 179 = .ok (.isub, 1) := by decide +kernel
theorem dX12_ways_180 : decode cX12_ways 180 = .ok (.iload 5, 2) := by decide +kernel
theorem dX12_ways_182 : decode cX12_ways 182 = .ok (.invokevirtual 229, 3) := by decide +kernel
theorem dX12_ways_185 : decode cX12_ways 185 = .ok (.iadd, 1) := by decide +kernel
theorem dX12_ways_186 : decode cX12_ways 186 = .ok (.istore 10, 2) := by decide +kernel
theorem dX12_ways_188 : decode cX12_ways 188 = .ok (.iload 11, 2) := by decide +kernel
theorem dX12_ways_190 : decode cX12_ways 190 = .ok (.aload_n 0, 1) := by decide +kernel
theorem dX12_ways_191 : decode cX12_ways 191 = .ok (.getfield 15, 3) := by decide +kernel
theorem dX12_ways_194 : decode cX12_ways 194 = .ok (.iload_n 3, 1) := by decide +kernel
theorem dX12_ways_195 : decode cX12_ways 195 = .ok (.iload 8, 2) := by decide +kernel
theorem dX12_ways_197 : decode cX12_ways 197 = .ok (.iadd, 1) := by decide +kernel
theorem dX12_ways_198 : decode cX12_ways 198 = .ok (.iload 12, 2) := by decide +kernel
theorem dX12_ways_200 : decode cX12_ways 200 = .ok (.iadd, 1) := by decide +kernel
theorem dX12_ways_201 : decode cX12_ways 201 = .ok (.iconst 1, 1) := by decide +kernel
theorem dX12_ways_202 : decode cX12_ways 202 = .ok (.isub, 1) := by decide +kernel
theorem dX12_ways_203 : decode cX12_ways 203 = .ok (.iaload, 1) := by decide +kernel
theorem dX12_ways_204 : decode cX12_ways 204 = .ok (.iadd, 1) := by decide +kernel
theorem dX12_ways_205 : decode cX12_ways 205 = .ok (.istore 11, 2) := by decide +kernel
theorem dX12_ways_207 : decode cX12_ways 207 = .ok (.iload 9, 2) := by decide +kernel
theorem dX12_ways_209 : decode cX12_ways 209 = .ok (.aload_n 0, 1) := by decide +kernel
theorem dX12_ways_210 : decode cX12_ways 210 = .ok (.getfield 21, 3) := by decide +kernel
theorem dX12_ways_213 : decode cX12_ways 213 = .ok (.iconst 1, 1) := by decide +kernel
theorem dX12_ways_214 : decode cX12_ways 214 = .ok (.iaload, 1) := by decide +kernel
theorem dX12_ways_215 : decode cX12_ways 215 = .ok (.aload_n 0, 1) := by decide +kernel
theorem dX12_ways_216 : decode cX12_ways 216 = .ok (.getfield 15, 3) := by decide +kernel
theorem dX12_ways_219 : decode cX12_ways 219 = .ok (.iload_n 1, 1) := by decide +kernel
theorem dX12_ways_220 : decode cX12_ways 220 = .ok (.iload 7, 2) := by decide +kernel
theorem dX12_ways_222 : decode cX12_ways 222 = .ok (.iadd, 1) := by decide +kernel
theorem dX12_ways_223 : decode cX12_ways 223 = .ok (.iaload, 1) := by decide +kernel
theorem dX12_ways_224 : decode cX12_ways 224 = .ok (.iload 11, 2) := by decide +kernel
theorem dX12_ways_226 : decode cX12_ways 226 = .ok (.isub, 1) := by decide +kernel
theorem dX12_ways_227 : decode cX12_ways 227 = .ok (.invokestatic 220, 3) := by decide +kernel
theorem dX12_ways_230 : decode cX12_ways 230 = .ok (.imul, 1) := by decide +kernel
theorem dX12_ways_231 : decode cX12_ways 231 = .ok (.iload 10, 2) := by decide +kernel
theorem dX12_ways_233 : decode cX12_ways 233 = .ok (.iadd, 1) := by decide +kernel
theorem dX12_ways_234 : decode cX12_ways 234 = .ok (.aload_n 0, 1) := by decide +kernel
theorem dX12_ways_235 : decode cX12_ways 235 = .ok (.getfield 47, 3) := by decide +kernel
theorem dX12_ways_238 : decode cX12_ways 238 = .ok (.iload 6, 2) := by decide +kernel
theorem dX12_ways_240 : decode cX12_ways 240 = .ok (.iload 7, 2) := by decide +kernel
theorem dX12_ways_242 : decode cX12_ways 242 = .ok (.iconst 1, 1) := by decide +kernel
theorem dX12_ways_243 : decode cX12_ways 243 = .ok (.iadd, 1) := by decide +kernel
theorem dX12_ways_244 : decode cX12_ways 244 = .ok (.imul, 1) := by decide +kernel
theorem dX12_ways_245 : decode cX12_ways 245 = .ok (.iload 8, 2) := by decide +kernel
theorem dX12_ways_247 : decode cX12_ways 247 = .ok (.iadd, 1) := by decide +kernel
theorem dX12_ways_248 : decode cX12_ways 248 = .ok (.iload 12, 2) := by decide +kernel
theorem dX12_ways_250 : decode cX12_ways 250 = .ok (.iadd, 1) := by decide +kernel
theorem dX12_ways_251 : decode cX12_ways 251 = .ok (.iaload, 1) := by decide +kernel
theorem dX12_ways_252 : decode cX12_ways 252 = .ok (.iadd, 1) := by decide +kernel
theorem dX12_ways_253 : decode cX12_ways 253 = .ok (.invokestatic 226, 3) := by decide +kernel
theorem dX12_ways_256 : decode cX12_ways 256 = .ok (.istore 9, 2) := by decide +kernel
theorem dX12_ways_258 : decode cX12_ways 258 = .ok (.iinc 12 1, 3) := by decide +kernel
theorem dX12_ways_261 : decode cX12_ways 261 = .ok (.goto (-119), 3) := by decide +kernel
theorem dX12_ways_264 : decode cX12_ways 264 = .ok (.iconst 0, 1) := by decide +kernel
theorem dX12_ways_265 : decode cX12_ways 265 = .ok (.istore 10, 2) := by decide +kernel
theorem dX12_ways_267 : decode cX12_ways 267 = .ok (.iconst 0, 1) := by decide +kernel
theorem dX12_ways_268 : decode cX12_ways 268 = .ok (.istore 11, 2) := by decide +kernel
theorem dX12_ways_270 : decode cX12_ways 270 = .ok (.iconst 1, 1) := by decide +kernel
theorem dX12_ways_271 : decode cX12_ways 271 = .ok (.istore 12, 2) := by decide +kernel
theorem dX12_ways_273 : decode cX12_ways 273 = .ok (.iload 12, 2) := by decide +kernel
theorem dX12_ways_275 : decode cX12_ways 275 = .ok (.iconst 4, 1) := by decide +kernel
theorem dX12_ways_276 : decode cX12_ways 276 = .ok (.if_icmp .gt 119, 3) := by decide +kernel
theorem dX12_ways_279 : decode cX12_ways 279 = .ok (.iload 8, 2) := by decide +kernel
theorem dX12_ways_281 : decode cX12_ways 281 = .ok (.iload 4, 2) := by decide +kernel
theorem dX12_ways_283 : decode cX12_ways 283 = .ok (.if_icmp .ge 112, 3) := by decide +kernel
theorem dX12_ways_286 : decode cX12_ways 286 = .ok (.iload 7, 2) := by decide +kernel
theorem dX12_ways_288 : decode cX12_ways 288 = .ok (.iload 12, 2) := by decide +kernel
theorem dX12_ways_290 : decode cX12_ways 290 = .ok (.iadd, 1) := by decide +kernel
theorem dX12_ways_291 : decode cX12_ways 291 = .ok (.iload_n 2, 1) := by decide +kernel
theorem dX12_ways_292 : decode cX12_ways 292 = .ok (.if_icmp .gt 103, 3) := by decide +kernel
theorem dX12_ways_295 : decode cX12_ways 295 = .ok (.iload 10, 2) := by decide +kernel
theorem dX12_ways_297 : decode cX12_ways 297 = .ok (.aload_n 0, 1) := by decide +kernel
theorem dX12_ways_298 : decode cX12_ways 298 = .ok (.iload_n 1, 1) := by decide +kernel
theorem dX12_ways_299 : decode cX12_ways 299 = .ok (.iload 7, 2) := by decide +kernel
theorem dX12_ways_301 : decode cX12_ways 301 = .ok (.iadd, 1) := by decide +kernel
theorem dX12_ways_302 : decode cX12_ways 302 = .ok (.iload 12, 2) := by decide +kernel
theorem dX12_ways_304 : decode cX12_ways 304 = .ok (.iadd, 1) := by decide +kernel
theorem dX12_ways_305 : decode cX12_ways 305 = .ok (.iconst 1, 1) := by decide +kernel
theorem dX12_ways_306 : decode cX12_ways 306 = .ok (.isub, 1) := by decide +kernel
theorem dX12_ways_307 : decode cX12_ways 307 = .ok (.iload_n 3, 1) := by decide +kernel
theorem dX12_ways_308 : decode cX12_ways 308 = .ok (.iload 8, 2) := by decide +kernel
theorem dX12_ways_310 : decode cX12_ways 310 = .ok (.iadd, 1) := by decide +kernel
theorem dX12_ways_311 : decode cX12_ways 311 = .ok (.iload 5, 2) := by decide +kernel
theorem dX12_ways_313 : decode cX12_ways 313 = .ok (.invokevirtual 229, 3) := by decide +kernel
theorem dX12_ways_316 : decode cX12_ways 316 = .ok (.iadd, 1) := by decide +kernel
theorem dX12_ways_317 : decode cX12_ways 317 = .ok (.istore 10, 2) := by decide +kernel
theorem dX12_ways_319 : decode cX12_ways 319 = .ok (.iload 11, 2) := by decide +kernel
theorem dX12_ways_321 : decode cX12_ways 321 = .ok (.aload_n 0, 1) := by decide +kernel
theorem dX12_ways_322 : decode cX12_ways 322 = .ok (.getfield 15, 3) := by decide +kernel
theorem dX12_ways_325 : decode cX12_ways 325 = .ok (.iload_n 1, 1) := by decide +kernel
theorem dX12_ways_326 : decode cX12_ways 326 = .ok (.iload 7, 2) := by decide +kernel
theorem dX12_ways_328 : decode cX12_ways 328 = .ok (.iadd, 1) := by decide +kernel
theorem dX12_ways_329 : decode cX12_ways 329 = .ok (.iload 12, 2) := by decide +kernel
theorem dX12_ways_331 : decode cX12_ways 331 = .ok (.iadd, 1) := by decide +kernel
theorem dX12_ways_332 : decode cX12_ways 332 = .ok (.iconst 1, 1) := by decide +kernel
theorem dX12_ways_333 : decode cX12_ways 333 = .ok (.isub, 1) := by decide +kernel
theorem dX12_ways_334 : decode cX12_ways 334 = .ok (.iaload, 1) := by decide +kernel
theorem dX12_ways_335 : decode cX12_ways 335 = .ok (.iadd, 1) := by decide +kernel
theorem dX12_ways_336 : decode cX12_ways 336 = .ok (.istore 11, 2) := by decide +kernel
theorem dX12_ways_338 : decode cX12_ways 338 = .ok (.iload 9, 2) := by decide +kernel
theorem dX12_ways_340 : decode cX12_ways 340 = .ok (.aload_n 0, 1) := by decide +kernel
theorem dX12_ways_341 : decode cX12_ways 341 = .ok (.getfield 21, 3) := by decide +kernel
theorem dX12_ways_344 : decode cX12_ways 344 = .ok (.iconst 1, 1) := by decide +kernel
theorem dX12_ways_345 : decode cX12_ways 345 = .ok (.iaload, 1) := by decide +kernel
theorem dX12_ways_346 : decode cX12_ways 346 = .ok (.iload 11, 2) := by decide +kernel
theorem dX12_ways_348 : decode cX12_ways 348 = .ok (.aload_n 0, 1) := by decide +kernel
theorem dX12_ways_349 : decode cX12_ways 349 = .ok (.getfield 15, 3) := by decide +kernel
theorem dX12_ways_352 : decode cX12_ways 352 = .ok (.iload_n 3, 1) := by decide +kernel
theorem dX12_ways_353 : decode cX12_ways 353 = .ok (.iload 8, 2) := by decide +kernel
theorem dX12_ways_355 : decode cX12_ways 355 = .ok (.iadd, 1) := by decide +kernel
theorem dX12_ways_356 : decode cX12_ways 356 = .ok (.iaload, 1) := by decide +kernel
theorem dX12_ways_357 : decode cX12_ways 357 = .ok (.isub, 1) := by decide +kernel
theorem dX12_ways_358 : decode cX12_ways 358 = .ok (.invokestatic 220, 3) := by decide +kernel
theorem dX12_ways_361 : decode cX12_ways 361 = .ok (.imul, 1) := by decide +kernel
theorem dX12_ways_362 : decode cX12_ways 362 = .ok (.iload 10, 2) := by decide +kernel
theorem dX12_ways_364 : decode cX12_ways 364 = .ok (.iadd, 1) := by decide +kernel
theorem dX12_ways_365 : decode cX12_ways 365 = .ok (.aload_n 0, 1) := by decide +kernel
theorem dX12_ways_366 : decode cX12_ways 366 = .ok (.getfield 47, 3) := by decide +kernel
theorem dX12_ways_369 : decode cX12_ways 369 = .ok (.iload 6, 2) := by decide +kernel
theorem dX12_ways_371 : decode cX12_ways 371 = .ok (.iload 7, 2) := by decide +kernel
theorem dX12_ways_373 : decode cX12_ways 373 = .ok (.iload 12, 2) := by decide +kernel
theorem dX12_ways_375 : decode cX12_ways 375 = .ok (.iadd, 1) := by decide +kernel
theorem dX12_ways_376 : decode cX12_ways 376 = .ok (.imul, 1) := by decide +kernel
theorem dX12_ways_377 : decode cX12_ways 377 = .ok (.iload 8, 2) := by decide +kernel
theorem dX12_ways_379 : decode cX12_ways 379 = .ok (.iadd, 1) := by decide +kernel
theorem dX12_ways_380 : decode cX12_ways 380 = .ok (.iconst 1, 1) := by decide +kernel
theorem dX12_ways_381 : decode cX12_ways 381 = .ok (.iadd, 1) := by decide +kernel
theorem dX12_ways_382 : decode cX12_ways 382 = .ok (.iaload, 1) := by decide +kernel
theorem dX12_ways_383 : decode cX12_ways 383 = .ok (.iadd, 1) := by decide +kernel
theorem dX12_ways_384 : decode cX12_ways 384 = .ok (.invokestatic 226, 3) := by decide +kernel
theorem dX12_ways_387 : decode cX12_ways 387 = .ok (.istore 9, 2) := by decide +kernel
theorem dX12_ways_389 : decode cX12_ways 389 = .ok (.iinc 12 1, 3) := by decide +kernel
theorem dX12_ways_392 : decode cX12_ways 392 = .ok (.goto (-119), 3) := by decide +kernel
theorem dX12_ways_395 : decode cX12_ways 395 = .ok (.aload_n 0, 1) := by decide +kernel
theorem dX12_ways_396 : decode cX12_ways 396 = .ok (.getfield 47, 3) := by decide +kernel
theorem dX12_ways_399 : decode cX12_ways 399 = .ok (.iload 6, 2) := by decide +kernel
theorem dX12_ways_401 : decode cX12_ways 401 = .ok (.iload 7, 2) := by decide +kernel
theorem dX12_ways_403 : decode cX12_ways 403 = .ok (.imul, 1) := by decide +kernel
theorem dX12_ways_404 : decode cX12_ways 404 = .ok (.iload 8, 2) := by decide +kernel
theorem dX12_ways_406 : decode cX12_ways 406 = .ok (.iadd, 1) := by decide +kernel
theorem dX12_ways_407 : decode cX12_ways 407 = .ok (.iload 9, 2) := by decide +kernel
theorem dX12_ways_409 : decode cX12_ways 409 = .ok (.iastore, 1) := by decide +kernel
theorem dX12_ways_410 : decode cX12_ways 410 = .ok (.iinc 8 (-1), 3) := by decide +kernel
theorem dX12_ways_413 : decode cX12_ways 413 = .ok (.goto (-397), 3) := by decide +kernel
theorem dX12_ways_416 : decode cX12_ways 416 = .ok (.iinc 7 (-1), 3) := by decide +kernel
theorem dX12_ways_419 : decode cX12_ways 419 = .ok (.goto (-412), 3) := by decide +kernel
theorem dX12_ways_422 : decode cX12_ways 422 = .ok (.return_, 1) := by decide +kernel
set_option maxRecDepth 20000 in
theorem ggX12_distanceOf_X12_ways : GoodIn wsX12_distanceOf wsX12_ways := goodIn_r _ [7, 8, 9, 10, 2, 11, 12, 13, 14, 15, 16, 17, 18, 19, 20, 6, 21, 22, 23, 24, 25, 26, 27, 28, 29, 30, 31, 32, 33, 34, 35, 36, 37, 38, 39, 40, 41, 42, 43, 44, 45, 46, 47, 48, 49, 50, 51, 52, 53, 54, 55, 56, 57, 58, 59, 60, 61, 62, 63] (by decide +kernel) (by decide +kernel)
set_option maxRecDepth 20000 in
theorem gX12_distanceOf_X12_ways : GoodIn wsX12_distanceOf (wsV RX12 232 RX12 yX12_ways wsX12_ways) := goodIn_app (goodIn_of _ (by decide +kernel)) ggX12_distanceOf_X12_ways
theorem dX12_distanceOf_0 : decode cX12_distanceOf 0 = .ok (.aload_n 0, 1) := by decide +kernel
theorem dX12_distanceOf_1 : decode cX12_distanceOf 1 = .ok (.bipush 24, 2) := by decide +kernel
theorem dX12_distanceOf_3 : decode cX12_distanceOf 3 = .ok (.iload_n 1, 1) := by decide +kernel
theorem dX12_distanceOf_4 : decode cX12_distanceOf 4 = .ok (.imul, 1) := by decide +kernel
theorem dX12_distanceOf_5 : decode cX12_distanceOf 5 = .ok (.aload_n 0, 1) := by decide +kernel
theorem dX12_distanceOf_6 : decode cX12_distanceOf 6 = .ok (.getfield 18, 3) := by decide +kernel
theorem dX12_distanceOf_9 : decode cX12_distanceOf 9 = .ok (.iload_n 1, 1) := by decide +kernel
theorem dX12_distanceOf_10 : decode cX12_distanceOf 10 = .ok (.iaload, 1) := by decide +kernel
theorem dX12_distanceOf_11 : decode cX12_distanceOf 11 = .ok (.bipush 24, 2) := by decide +kernel
theorem dX12_distanceOf_13 : decode cX12_distanceOf 13 = .ok (.iload_n 2, 1) := by decide +kernel
theorem dX12_distanceOf_14 : decode cX12_distanceOf 14 = .ok (.imul, 1) := by decide +kernel
theorem dX12_distanceOf_15 : decode cX12_distanceOf 15 = .ok (.aload_n 0, 1) := by decide +kernel
theorem dX12_distanceOf_16 : decode cX12_distanceOf 16 = .ok (.getfield 18, 3) := by decide +kernel
theorem dX12_distanceOf_19 : decode cX12_distanceOf 19 = .ok (.iload_n 2, 1) := by decide +kernel
theorem dX12_distanceOf_20 : decode cX12_distanceOf 20 = .ok (.iaload, 1) := by decide +kernel
theorem dX12_distanceOf_21 : decode cX12_distanceOf 21 = .ok (.iload_n 3, 1) := by decide +kernel
theorem dX12_distanceOf_22 : decode cX12_distanceOf 22 = .ok (.invokevirtual 232, 3) := by decide +kernel
theorem dX12_distanceOf_25 : decode cX12_distanceOf 25 = .ok (.aload_n 0, 1) := by decide +kernel
theorem dX12_distanceOf_26 : decode cX12_distanceOf 26 = .ok (.getfield 47, 3) := by decide +kernel
theorem dX12_distanceOf_29 : decode cX12_distanceOf 29 = .ok (.iconst 0, 1) := by decide +kernel
theorem dX12_distanceOf_30 : decode cX12_distanceOf 30 = .ok (.iaload, 1) := by decide +kernel
theorem dX12_distanceOf_31 : decode cX12_distanceOf 31 = .ok (.ireturn, 1) := by decide +kernel
set_option maxRecDepth 20000 in
theorem ggX12_distance_X12_isTune : GoodIn wsX12_distance wsX12_isTune := goodIn_r _ [5, 6, 7, 33, 34, 35, 36, 37, 38, 39, 40, 41, 42, 43, 44, 45, 46, 47, 48, 49, 50, 51, 52, 53, 54, 55, 56, 57, 58, 59, 60, 61, 62, 63, 64, 65, 66, 67, 68, 69, 70, 71, 72, 73] (by decide +kernel) (by decide +kernel)
set_option maxRecDepth 20000 in
theorem gX12_distance_X12_isTune : GoodIn wsX12_distance (wsV RX12 93 RX12 yX12_isTune wsX12_isTune) := goodIn_app (goodIn_of _ (by decide +kernel)) ggX12_distance_X12_isTune
set_option maxRecDepth 20000 in
theorem ggX12_distance_X12_distanceOf : GoodIn wsX12_distance wsX12_distanceOf := goodIn_r _ [11, 12, 13, 14, 15, 16, 4, 17, 18, 19, 20, 21, 22, 23, 24, 25, 26, 27, 28, 29, 30, 31, 32, 33, 34, 35, 36, 37, 38, 39, 40, 41, 42, 43, 44, 45, 46, 47, 48, 49, 50, 51, 52, 53, 54, 55, 56, 57, 58, 59, 60, 61, 62, 63, 64, 65, 66, 67, 68, 69, 70, 71, 72, 73] (by decide +kernel) (by decide +kernel)
set_option maxRecDepth 20000 in
theorem gX12_distance_X12_distanceOf : GoodIn wsX12_distance (wsV RX12 235 RX12 yX12_distanceOf wsX12_distanceOf) := goodIn_app (goodIn_of _ (by decide +kernel)) ggX12_distance_X12_distanceOf
theorem dX12_distance_0 : decode cX12_distance 0 = .ok (.aload_n 0, 1) := by decide +kernel
theorem dX12_distance_1 : decode cX12_distance 1 = .ok (.iload_n 1, 1) := by decide +kernel
theorem dX12_distance_2 : decode cX12_distance 2 = .ok (.invokevirtual 93, 3) := by decide +kernel
theorem dX12_distance_5 : decode cX12_distance 5 = .ok (.ifCond .eq 11, 3) := by decide +kernel
theorem dX12_distance_8 : decode cX12_distance 8 = .ok (.aload_n 0, 1) := by decide +kernel
theorem dX12_distance_9 : decode cX12_distance 9 = .ok (.iload_n 2, 1) := by decide +kernel
theorem dX12_distance_10 : decode cX12_distance 10 = .ok (.invokevirtual 93, 3) := by decide +kernel
theorem dX12_distance_13 : decode cX12_distance 13 = .ok (.ifCond .ne 5, 3) := by decide +kernel
theorem dX12_distance_16 : decode cX12_distance 16 = .ok (.iconst (-1), 1) := by decide +kernel
theorem dX12_distance_17 : decode cX12_distance 17 = .ok (.ireturn, 1) := by decide +kernel
theorem dX12_distance_18 : decode cX12_distance 18 = .ok (.iload_n 3, 1) := by decide +kernel
theorem dX12_distance_19 : decode cX12_distance 19 = .ok (.bipush (-24), 2) := by decide +kernel
theorem dX12_distance_21 : decode cX12_distance 21 = .ok (.if_icmp .lt 9, 3) := by decide +kernel
theorem dX12_distance_24 : decode cX12_distance 24 = .ok (.iload_n 3, 1) := by decide +kernel
theorem dX12_distance_25 : decode cX12_distance 25 = .ok (.bipush 24, 2) := by decide +kernel
theorem dX12_distance_27 : decode cX12_distance 27 = .ok (.if_icmp .le 8, 3) := by decide +kernel
theorem dX12_distance_30 : decode cX12_distance 30 = .ok (.bipush (-2), 2) := by decide +kernel
theorem dX12_distance_32 : decode cX12_distance 32 = .ok (.goto 10, 3) := by decide +kernel
theorem dX12_distance_35 : decode cX12_distance 35 = .ok (.aload_n 0, 1) := by decide +kernel
theorem dX12_distance_36 : decode cX12_distance 36 = .ok (.iload_n 1, 1) := by decide +kernel
theorem dX12_distance_37 : decode cX12_distance 37 = .ok (.iload_n 2, 1) := by decide +kernel
theorem dX12_distance_38 : decode cX12_distance 38 = .ok (.iload_n 3, 1) := by decide +kernel
theorem dX12_distance_39 : decode cX12_distance 39 = .ok (.invokevirtual 235, 3) := by decide +kernel
theorem dX12_distance_42 : decode cX12_distance 42 = .ok (.ireturn, 1) := by decide +kernel
theorem dX12_better_0 : decode cX12_better 0 = .ok (.iload_n 2, 1) := by decide +kernel
theorem dX12_better_1 : decode cX12_better 1 = .ok (.aload_n 0, 1) := by decide +kernel
theorem dX12_better_2 : decode cX12_better 2 = .ok (.getfield 50, 3) := by decide +kernel
theorem dX12_better_5 : decode cX12_better 5 = .ok (.iload_n 1, 1) := by decide +kernel
theorem dX12_better_6 : decode cX12_better 6 = .ok (.iaload, 1) := by decide +kernel
theorem dX12_better_7 : decode cX12_better 7 = .ok (.if_icmp .lt 23, 3) := by decide +kernel
theorem dX12_better_10 : decode cX12_better 10 = .ok (.iload_n 2, 1) := by decide +kernel
theorem dX12_better_11 : decode cX12_better 11 = .ok (.aload_n 0, 1) := by decide +kernel
theorem dX12_better_12 : decode cX12_better 12 = .ok (.getfield 50, 3) := by decide +kernel
theorem dX12_better_15 : decode cX12_better 15 = .ok (.iload_n 1, 1) := by decide +kernel
theorem dX12_better_16 : decode cX12_better 16 = .ok (.iaload, 1) := by decide +kernel
theorem dX12_better_17 : decode cX12_better 17 = .ok (.if_icmp .ne 27, 3) := by decide +kernel
theorem dX12_better_20 : decode cX12_better 20 = .ok (.iload_n 3, 1) := by decide +kernel
theorem dX12_better_21 : decode cX12_better 21 = .ok (.aload_n 0, 1) := by decide +kernel
theorem dX12_better_22 : decode cX12_better 22 = .ok (.getfield 53, 3) := by decide +kernel
theorem dX12_better_25 : decode cX12_better 25 = .ok (.iload_n 1, 1) := by decide +kernel
theorem dX12_better_26 : decode cX12_better 26 = .ok (.iaload, 1) := by decide +kernel
theorem dX12_better_27 : decode cX12_better 27 = .ok (.if_icmp .le 17, 3) := by decide +kernel
theorem dX12_better_30 : decode cX12_better 30 = .ok (.aload_n 0, 1) := by decide +kernel
theorem dX12_better_31 : decode cX12_better 31 = .ok (.getfield 50, 3) := by decide +kernel
theorem dX12_better_34 : decode cX12_better 34 = .ok (.iload_n 1, 1) := by decide +kernel
theorem dX12_better_35 : decode cX12_better 35 = .ok (.iload_n 2, 1) := by decide +kernel
theorem dX12_better_36 : decode cX12_better 36 = .ok (.iastore, 1) := by decide +kernel
theorem dX12_better_37 : decode cX12_better 37 = .ok (.aload_n 0, 1) := by decide +kernel
theorem dX12_better_38 : decode cX12_better 38 = .ok (.getfield 53, 3) := by decide +kernel
theorem dX12_better_41 : decode cX12_better 41 = .ok (.iload_n 1, 1) := by decide +kernel
theorem dX12_better_42 : decode cX12_better 42 = .ok (.iload_n 3, 1) := by decide +kernel
theorem dX12_better_43 : decode cX12_better 43 = .ok (.iastore, 1) := by decide +kernel
theorem dX12_better_44 : decode cX12_better 44 = .ok (.return_, 1) := by decide +kernel
set_option maxRecDepth 20000 in
theorem ggX12_reachEnds_X12_better : GoodIn wsX12_reachEnds wsX12_better := goodIn_r _ [15, 2, 4, 21, 22, 23, 24, 25, 26, 27, 28, 29, 30, 31, 32, 33, 34, 35, 36, 37, 38, 39, 40, 41, 42, 43, 44, 45, 46, 47, 48, 49, 50, 51, 52, 53, 54, 55, 56, 57, 58, 59, 60, 61] (by decide +kernel) (by decide +kernel)
set_option maxRecDepth 20000 in
theorem gX12_reachEnds_X12_better : GoodIn wsX12_reachEnds (wsV RX12 238 RX12 yX12_better wsX12_better) := goodIn_app (goodIn_of _ (by decide +kernel)) ggX12_reachEnds_X12_better
set_option maxRecDepth 20000 in
theorem ggX12_reachEnds_X12_pair : GoodIn wsX12_reachEnds wsX12_pair := goodIn_r _ [19, 20, 5, 7, 8, 9, 10, 21, 22, 23, 24, 25, 26, 27, 28, 29, 30, 31, 32, 33, 34, 35, 36, 37, 38, 39, 40, 41, 42, 43, 44, 45, 46, 47, 48, 49, 50, 51, 52, 53, 54, 55, 56, 57, 58, 59, 60, 61] (by decide +kernel) (by decide +kernel)
set_option maxRecDepth 20000 in
theorem gX12_reachEnds_X12_pair : GoodIn wsX12_reachEnds (wsV RX12 229 RX12 yX12_pair wsX12_pair) := goodIn_app (goodIn_of _ (by decide +kernel)) ggX12_reachEnds_X12_pair
theorem dX12_reachEnds_0 : decode cX12_reachEnds 0 = .ok (.bipush 25, 2) := by decide +kernel
theorem dX12_reachEnds_2 : decode cX12_reachEnds 2 = .ok (.istore_n 3, 1) := by decide +kernel
theorem dX12_reachEnds_3 : decode cX12_reachEnds 3 = .ok (.sipush 192, 3) := by decide +kernel
theorem dX12_reachEnds_6 : decode cX12_reachEnds 6 = .ok (.istore 4, 2) := by decide +kernel
theorem dX12_reachEnds_8 : decode cX12_reachEnds 8 = .ok (.bipush 24, 2) := by decide +kernel
theorem dX12_reachEnds_10 : decode cX12_reachEnds 10 = .ok (.iload_n 1, 1) := by decide +kernel
theorem dX12_reachEnds_11 : decode cX12_reachEnds 11 = .ok (.imul, 1) := by decide +kernel
theorem dX12_reachEnds_12 : decode cX12_reachEnds 12 = .ok (.istore 5, 2) := by decide +kernel
theorem dX12_reachEnds_14 : decode cX12_reachEnds 14 = .ok (.iconst 0, 1) := by decide +kernel
theorem dX12_reachEnds_15 : decode cX12_reachEnds 15 = .ok (.istore 6, 2) := by decide +kernel
theorem dX12_reachEnds_17 : decode cX12_reachEnds 17 = .ok (.iload 6, 2) := by decide +kernel
theorem dX12_reachEnds_19 : decode cX12_reachEnds 19 = .ok (.aload_n 0, 1) := by decide +kernel
theorem dX12_reachEnds_20 : decode cX12_reachEnds 20 = .ok (.getfield 18, 3) := by decide +kernel
theorem dX12_reachEnds_23 : decode cX12_reachEnds 23 = .ok (.bipush 8, 2) := by decide +kernel
theorem dX12_reachEnds_25 : decode cX12_reachEnds 25 = .ok (.iaload, 1) := by decide +kernel
theorem dX12_reachEnds_26 : decode cX12_reachEnds 26 = .ok (.if_icmp .gt 442, 3) := by decide +kernel
theorem dX12_reachEnds_29 : decode cX12_reachEnds 29 = .ok (.iconst 0, 1) := by decide +kernel
theorem dX12_reachEnds_30 : decode cX12_reachEnds 30 = .ok (.istore 7, 2) := by decide +kernel
theorem dX12_reachEnds_32 : decode cX12_reachEnds 32 = .ok (.iload 7, 2) := by decide +kernel
theorem dX12_reachEnds_34 : decode cX12_reachEnds 34 = .ok (.aload_n 0, 1) := by decide +kernel
theorem dX12_reachEnds_35 : decode cX12_reachEnds 35 = .ok (.getfield 18, 3) := by decide +kernel
theorem dX12_reachEnds_38 : decode cX12_reachEnds 38 = .ok (.iload_n 1, 1) := by decide +kernel
theorem dX12_reachEnds_39 : decode cX12_reachEnds 39 = .ok (.iaload, 1) := by decide +kernel
theorem dX12_reachEnds_40 : decode cX12_reachEnds 40 = .ok (.if_icmp .gt 422, 3) := by decide +kernel
theorem dX12_reachEnds_43 : decode cX12_reachEnds 43 = .ok (.iload_n 3, 1) := by decide +kernel
theorem dX12_reachEnds_44 : decode cX12_reachEnds 44 = .ok (.iload 6, 2) := by decide +kernel
theorem dX12_reachEnds_46 : decode cX12_reachEnds 46 = .ok (.imul, 1) := by decide +kernel
theorem dX12_reachEnds_47 : decode cX12_reachEnds 47 = .ok (.iload 7, 2) := by decide +kernel
theorem dX12_reachEnds_49 : decode cX12_reachEnds 49 = .ok (.iadd, 1) := by decide +kernel
theorem dX12_reachEnds_50 : decode cX12_reachEnds 50 = .ok (.istore 8, 2) := by decide +kernel
theorem dX12_reachEnds_52 : decode cX12_reachEnds 52 = .ok (.aload_n 0, 1) := by decide +kernel
theorem dX12_reachEnds_53 : decode cX12_reachEnds 53 = .ok (.getfield 50, 3) := by decide +kernel
theorem dX12_reachEnds_56 : decode cX12_reachEnds 56 = .ok (.iload 8, 2) := by decide +kernel
theorem dX12_reachEnds_58 : decode cX12_reachEnds 58 = .ok (.iload 6, 2) := by decide +kernel
theorem dX12_reachEnds_60 : decode cX12_reachEnds 60 = .ok (.ifCond .ne 7, 3) := by decide +kernel
theorem dX12_reachEnds_63 : decode cX12_reachEnds 63 = .ok (.iconst 0, 1) := by decide +kernel
theorem dX12_reachEnds_64 : decode cX12_reachEnds 64 = .ok (.goto 5, 3) := by decide +kernel
theorem dX12_reachEnds_67 : decode cX12_reachEnds 67 = .ok (.ldc 225, 2) := by decide +kernel
theorem dX12_reachEnds_69 : decode cX12_reachEnds 69 = .ok (.iastore, 1) := by decide +kernel
theorem dX12_reachEnds_70 : decode cX12_reachEnds 70 = .ok (.aload_n 0, 1) := by decide +kernel
theorem dX12_reachEnds_71 : decode cX12_reachEnds 71 = .ok (.getfield 53, 3) := by decide +kernel
theorem dX12_reachEnds_74 : decode cX12_reachEnds 74 = .ok (.iload 8, 2) := by decide +kernel
theorem dX12_reachEnds_76 : decode cX12_reachEnds 76 = .ok (.iload 6, 2) := by decide +kernel
theorem dX12_reachEnds_78 : decode cX12_reachEnds 78 = .ok (.ifCond .ne 8, 3) := by decide +kernel
theorem dX12_reachEnds_81 : decode cX12_reachEnds 81 = .ok (.iload 7, 2) := by decide +kernel
theorem dX12_reachEnds_83 : decode cX12_reachEnds 83 = .ok (.goto 4, 3) := by decide +kernel
theorem dX12_reachEnds_86 : decode cX12_reachEnds 86 = .ok (.iconst (-1), 1) := by decide +kernel
theorem dX12_reachEnds_87 : decode cX12_reachEnds 87 = .ok (.iastore, 1) := by decide +kernel
theorem dX12_reachEnds_88 : decode cX12_reachEnds 88 = .ok (.iload 6, 2) := by decide +kernel
theorem dX12_reachEnds_90 : decode cX12_reachEnds 90 = .ok (.ifCond .le 47, 3) := by decide +kernel
theorem dX12_reachEnds_93 : decode cX12_reachEnds 93 = .ok (.aload_n 0, 1) := by decide +kernel
theorem dX12_reachEnds_94 : decode cX12_reachEnds 94 = .ok (.iload 8, 2) := by decide +kernel
theorem dX12_reachEnds_96 : decode cX12_reachEnds 96 = .ok (.aload_n 0, 1) := by decide +kernel
theorem dX12_reachEnds_97 : decode cX12_reachEnds 97 = .ok (.getfield 50, 3) := by decide +kernel
theorem dX12_reachEnds_100 : decode cX12_reachEnds 100 = .ok (.iload 8, 2) := by decide +kernel
theorem dX12_reachEnds_102 : decode cX12_reachEnds 102 = .ok (.iload_n 3, 1) := by decide +kernel
theorem dX12_reachEnds_103 : decode cX12_reachEnds 103 = .ok (.isub, 1) := by decide +kernel
theorem dX12_reachEnds_104 : decode cX12_reachEnds 104 = .ok (.iaload, 1) := by decide +kernel
theorem dX12_reachEnds_105 : decode cX12_reachEnds 105 = .ok (.aload_n 0, 1) := by decide +kernel
theorem dX12_reachEnds_106 : decode cX12_reachEnds 106 = .ok (.getfield 21, 3) := by decide +kernel
theorem dX12_reachEnds_109 : decode cX12_reachEnds 109 = .ok (.iconst 2, 1) := by decide +kernel
theorem dX12_reachEnds_110 : decode cX12_reachEnds 110 = .ok (.iaload, 1) := by decide +kernel
theorem dX12_reachEnds_111 : decode cX12_reachEnds 111 = .ok (.aload_n 0, 1) := by decide +kernel
theorem dX12_reachEnds_112 : decode cX12_reachEnds 112 = .ok (.getfield 15, 3) := by decide +kernel
theorem dX12_reachEnds_115 : decode cX12_reachEnds 115 = .ok (.iload 4, 2) := by decide +kernel
theorem dX12_reachEnds_117 : decode cX12_reachEnds 117 = .ok (.iload 6, 2) := by decide +kernel
theorem dX12_reachEnds_119 : decode cX12_reachEnds 119 = .ok (.iadd, 1) := by decide +kernel
theorem dX12_reachEnds_120 : decode cX12_reachEnds 120 = .ok (.iconst 1, 1) := by decide +kernel
theorem dX12_reachEnds_121 : decode cX12_reachEnds 121 = .ok (.isub, 1) := by decide +kernel
theorem dX12_reachEnds_122 : decode cX12_reachEnds 122 = .ok (.iaload, 1) := by decide +kernel
theorem dX12_reachEnds_123 : decode cX12_reachEnds 123 = .ok (.imul, 1) := by decide +kernel
theorem dX12_reachEnds_124 : decode cX12_reachEnds 124 = .ok (.iadd, 1) := by decide +kernel
theorem dX12_reachEnds_125 : decode cX12_reachEnds 125 = .ok (.aload_n 0, 1) := by decide +kernel
theorem dX12_reachEnds_126 : decode cX12_reachEnds 126 = .ok (.getfield 53, 3) := by decide +kernel
theorem dX12_reachEnds_129 : decode cX12_reachEnds 129 = .ok (.iload 8, 2) := by decide +kernel
theorem dX12_reachEnds_131 : decode cX12_reachEnds 131 = .ok (.iload_n 3, 1) := by decide +kernel
theorem dX12_reachEnds_132 : decode cX12_reachEnds 132 = .ok (.isub, 1) := by decide +kernel
theorem dX12_reachEnds_133 : decode cX12_reachEnds 133 = .ok (.iaload, 1) := by decide +kernel
theorem dX12_reachEnds_134 : decode cX12_reachEnds 134 = .ok (.invokevirtual 238, 3) := by decide +kernel
theorem dX12_reachEnds_137 : decode cX12_reachEnds 137 = .ok (.iload 7, 2) := by decide +kernel
theorem dX12_reachEnds_139 : decode cX12_reachEnds 139 = .ok (.ifCond .le 47, 3) := by decide +kernel
theorem dX12_reachEnds_142 : decode cX12_reachEnds 142 = .ok (.aload_n 0, 1) := by decide +kernel
theorem dX12_reachEnds_143 : decode cX12_reachEnds 143 = .ok (.iload 8, 2) := by decide +kernel
theorem dX12_reachEnds_145 : decode cX12_reachEnds 145 = .ok (.aload_n 0, 1) := by decide +kernel
theorem dX12_reachEnds_146 : decode cX12_reachEnds 146 = .ok (.getfield 50, 3) := by decide +kernel
theorem dX12_reachEnds_149 : decode cX12_reachEnds 149 = .ok (.iload 8, 2) := by decide +kernel
theorem dX12_reachEnds_151 : decode cX12_reachEnds 151 = .ok (.iconst 1, 1) := by decide +kernel
theorem dX12_reachEnds_152 : decode cX12_reachEnds 152 = .ok (.isub, 1) := by decide +kernel
theorem dX12_reachEnds_153 : decode cX12_reachEnds 153 = .ok (.iaload, 1) := by decide +kernel
theorem dX12_reachEnds_154 : decode cX12_reachEnds 154 = .ok (.aload_n 0, 1) := by decide +kernel
theorem dX12_reachEnds_155 : decode cX12_reachEnds 155 = .ok (.getfield 21, 3) := by decide +kernel
theorem dX12_reachEnds_158 : decode cX12_reachEnds 158 = .ok (.iconst 3, 1) := by decide +kernel
theorem dX12_reachEnds_159 : decode cX12_reachEnds 159 = .ok (.iaload, 1) := by decide +kernel
theorem dX12_reachEnds_160 : decode cX12_reachEnds 160 = .ok (.aload_n 0, 1) := by decide +kernel
theorem dX12_reachEnds_161 : decode cX12_reachEnds 161 = .ok (.getfield 15, 3) := by decide +kernel
theorem dX12_reachEnds_164 : decode cX12_reachEnds 164 = .ok (.iload 5, 2) := by decide +kernel
theorem dX12_reachEnds_166 : decode cX12_reachEnds 166 = .ok (.iload 7, 2) := by decide +kernel
theorem dX12_reachEnds_168 : decode cX12_reachEnds 168 = .ok (.iadd, 1) := by decide +kernel
theorem dX12_reachEnds_169 : decode cX12_reachEnds 169 = .ok (.iconst 1, 1) := by decide +kernel
theorem dX12_reachEnds_170 : decode cX12_reachEnds 170 = .ok (.isub, 1) := by decide +kernel
theorem dX12_reachEnds_171 : decode cX12_reachEnds 171 = .ok (.iaload, 1) := by decide +kernel
theorem dX12_reachEnds_172 : decode cX12_reachEnds 172 = .ok (.imul, 1) := by decide +kernel
theorem dX12_reachEnds_173 : decode cX12_reachEnds 173 = .ok (.iadd, 1) := by decide +kernel
theorem dX12_reachEnds_174 : decode cX12_reachEnds 174 = .ok (.aload_n 0, 1) := by decide +kernel
theorem dX12_reachEnds_175 : decode cX12_reachEnds 175 = .ok (.getfield 53, 3) := by decide +kernel
theorem dX12_reachEnds_178 : decode cX12_reachEnds 178 = .ok (.iload 8, 2) := by decide +kernel
theorem dX12_reachEnds_180 : decode cX12_reachEnds 180 = .ok (.iconst 1, 1) := by decide +kernel
theorem dX12_reachEnds_181 : decode cX12_reachEnds 181 = .ok (.isub, 1) := by decide +kernel
theorem dX12_reachEnds_182 : decode cX12_reachEnds 182 = .ok (.iaload, 1) := by decide +kernel
theorem dX12_reachEnds_183 : decode cX12_reachEnds 183 = .ok (.invokevirtual 238, 3) := by decide +kernel
theorem dX12_reachEnds_186 : decode cX12_reachEnds 186 = .ok (.iconst 0, 1) := by decide +kernel
theorem dX12_reachEnds_187 : decode cX12_reachEnds 187 = .ok (.istore 9, 2) := by decide +kernel
theorem dX12_reachEnds_189 : decode cX12_reachEnds 189 = .ok (.iconst 0, 1) := by decide +kernel
theorem dX12_reachEnds_190 : decode cX12_reachEnds 190 = .ok (.istore 10, 2) := by decide +kernel
theorem dX12_reachEnds_192 : decode cX12_reachEnds 192 = .ok (.iconst 1, 1) := by decide +kernel
theorem dX12_reachEnds_193 : decode cX12_reachEnds 193 = .ok (.istore 11, 2) := by decide +kernel
theorem dX12_reachEnds_195 : decode cX12_reachEnds 195 = .ok (.iload 11, 2) := by decide +kernel
theorem dX12_reachEnds_197 : decode cX12_reachEnds 197 = .ok (.iconst 4, 1) := by decide +kernel
theorem dX12_reachEnds_198 : decode cX12_reachEnds 198 = .ok (.if_icmp .gt 122, 3) := by decide +kernel
theorem dX12_reachEnds_201 : decode cX12_reachEnds 201 = .ok (.iload 6, 2) := by decide +kernel
theorem dX12_reachEnds_203 : decode cX12_reachEnds 203 = .ok (.ifCond .le 117, 3) := by decide +kernel
theorem dX12_reachEnds_206 : decode cX12_reachEnds 206 = .ok (.iload 11, 2) := by decide +kernel
theorem dX12_reachEnds_208 : decode cX12_reachEnds 208 = .ok (.iload 7, 2) := by decide +kernel
theorem dX12_reachEnds_210 : decode cX12_reachEnds 210 = .ok (.if_icmp .gt 110, 3) := by decide +kernel
theorem dX12_reachEnds_213 : decode cX12_reachEnds 213 = .ok (.iload 9, 2) := by decide +kernel
theorem dX12_reachEnds_215 : decode cX12_reachEnds 215 = .ok (.aload_n 0, 1) := by decide +kernel
theorem dX12_reachEnds_216 : decode cX12_reachEnds 216 = .ok (.iload 4, 2) := by decide +kernel
theorem dX12_reachEnds_218 : decode cX12_reachEnds 218 = .ok (.iload 6, 2) := by decide +kernel
theorem dX12_reachEnds_220 : decode cX12_reachEnds 220 = .ok (.iadd, 1) := by decide +kernel
theorem dX12_reachEnds_221 : decode cX12_reachEnds 221 = .ok (.iconst 1, 1) := by decide +kernel
theorem dX12_reachEnds_222 : decode cX12_reachEnds 222 = .ok (.isub, 1) := by decide +kernel
theorem dX12_reachEnds_223 : decode cX12_reachEnds 223 = .ok (.iload 5, 2) := by decide +kernel
theorem dX12_reachEnds_225 : decode cX12_reachEnds 225 = .ok (.iload 7, 2) := by decide +kernel
theorem dX12_reachEnds_227 : decode cX12_reachEnds 227 = .ok (.iadd, 1) := by decide +kernel
theorem dX12_reachEnds_228 : decode cX12_reachEnds 228 = .ok (.iload 11, 2) := by decide +kernel
theorem dX12_reachEnds_230 : decode cX12_reachEnds 230 = .ok (.isub, 1) := by decide +kernel
theorem dX12_reachEnds_231 : decode cX12_reachEnds 231 = .ok (.iload_n 2, 1) := by decide +kernel
theorem dX12_reachEnds_232 : decode cX12_reachEnds 232 = .ok (.invokevirtual 229, 3) := by decide +kernel
theorem dX12_reachEnds_235 : decode cX12_reachEnds 235 = .ok (.iadd, 1) := by decide +kernel
theorem dX12_reachEnds_236 : decode cX12_reachEnds 236 = .ok (.istore 9, 2) := by decide +kernel
theorem dX12_reachEnds_238 : decode cX12_reachEnds 238 = .ok (.iload 10, 2) := by decide +kernel
theorem dX12_reachEnds_240 : decode cX12_reachEnds 240 = .ok (.aload_n 0, 1) := by decide +kernel
theorem dX12_reachEnds_241 : decode cX12_reachEnds 241 = .ok (.getfield 15, 3) := by decide +kernel
theorem dX12_reachEnds_244 : decode cX12_reachEnds 244 = .ok (.iload 5, 2) := by decide +kernel
theorem dX12_reachEnds_246 : decode cX12_reachEnds 246 = .ok (.iload 7, 2) := by decide +kernel
theorem dX12_reachEnds_248 : decode cX12_reachEnds 248 = .ok (.iadd, 1) := by decide +kernel
theorem dX12_reachEnds_249 : decode cX12_reachEnds 249 = .ok (.iload 11, 2) := by decide +kernel
theorem dX12_reachEnds_251 : decode cX12_reachEnds 251 = .ok (.isub, 1) := by decide +kernel
theorem dX12_reachEnds_252 : decode cX12_reachEnds 252 = .ok (.iaload, 1) := by decide +kernel
theorem dX12_reachEnds_253 : decode cX12_reachEnds 253 = .ok (.iadd, 1) := by decide +kernel
theorem dX12_reachEnds_254 : decode cX12_reachEnds 254 = .ok (.istore 10, 2) := by decide +kernel
theorem dX12_reachEnds_256 : decode cX12_reachEnds 256 = .ok (.iload 8, 2) := by decide +kernel
theorem dX12_reachEnds_258 : decode cX12_reachEnds 258 = .ok (.iload_n 3, 1) := by decide +kernel
theorem dX12_reachEnds_259 : decode cX12_reachEnds 259 = .ok (.isub, 1) := by decide +kernel
theorem dX12_reachEnds_260 : decode cX12_reachEnds 260 = .ok (.iload 11, 2) := by decide +kernel
theorem dX12_reachEnds_262 : decode cX12_reachEnds 262 = .ok (.isub, 1) := by decide +kernel
theorem dX12_reachEnds_263 : decode cX12_reachEnds 263 = .ok (.istore 12, 2) := by decide +kernel
theorem dX12_reachEnds_265 : decode cX12_reachEnds 265 = .ok (.aload_n 0, 1) := by decide +kernel
theorem dX12_reachEnds_266 : decode cX12_reachEnds 266 = .ok (.iload 8, 2) := by decide +kernel
theorem dX12_reachEnds_268 : decode cX12_reachEnds 268 = .ok (.aload_n 0, 1) := by decide +kernel
theorem dX12_reachEnds_269 : decode cX12_reachEnds 269 = .ok (.getfield 50, 3) := by decide +kernel
theorem dX12_reachEnds_272 : decode cX12_reachEnds 272 = .ok (.iload 12, 2) := by decide +kernel
theorem dX12_reachEnds_274 : decode cX12_reachEnds 274 = .ok (.iaload, 1) := by decide +kernel
theorem dX12_reachEnds_275 : decode cX12_reachEnds 275 = .ok (.aload_n 0, 1) := by decide +kernel
theorem dX12_reachEnds_276 : decode cX12_reachEnds 276 = .ok (.getfield 21, 3) := by decide +kernel
theorem dX12_reachEnds_279 : decode cX12_reachEnds 279 = .ok (.iconst 1, 1) := by decide +kernel
theorem dX12_reachEnds_280 : decode cX12_reachEnds 280 = .ok (.iaload, 1) := by decide +kernel
theorem dX12_reachEnds_281 : decode cX12_reachEnds 281 = .ok (.aload_n 0, 1) := by decide +kernel
theorem dX12_reachEnds_282 : decode cX12_reachEnds 282 = .ok (.getfield 15, 3) := by decide +kernel
theorem dX12_reachEnds_285 : decode cX12_reachEnds 285 = .ok (.iload 4, 2) := by decide +kernel
theorem dX12_reachEnds_287 : decode cX12_reachEnds 287 = .ok (.iload 6, 2) := by decide +kernel
theorem dX12_reachEnds_289 : decode cX12_reachEnds 289 = .ok (.iadd, 1) := by decide +kernel
theorem dX12_reachEnds_290 : decode cX12_reachEnds 290 = .ok (.iconst 1, 1) := by decide +kernel
theorem dX12_reachEnds_291 : decode cX12_reachEnds 291 = .ok (.isub, 1) := by decide +kernel
theorem dX12_reachEnds_292 : decode cX12_reachEnds 292 = .ok (.iaload, 1) := by decide +kernel
theorem dX12_reachEnds_293 : decode cX12_reachEnds 293 = .ok (.iload 10, 2) := by decide +kernel
theorem dX12_reachEnds_295 : decode cX12_reachEnds 295 = .ok (.isub, 1) := by decide +kernel
theorem dX12_reachEnds_296 : decode cX12_reachEnds 296 = .ok (.invokestatic 220, 3) := by decide +kernel
theorem dX12_reachEnds_299 : decode cX12_reachEnds 299 = .ok (.imul, 1) := by decide +kernel
theorem dX12_reachEnds_300 : decode cX12_reachEnds 300 = .ok (.iadd, 1) := by decide +kernel
theorem dX12_reachEnds_301 : decode cX12_reachEnds 301 = .ok (.iload 9, 2) := by decide +kernel
theorem dX12_reachEnds_303 : decode cX12_reachEnds 303 = .ok (.iadd, 1) := by decide +kernel
theorem dX12_reachEnds_304 : decode cX12_reachEnds 304 = .ok (.aload_n 0, 1) := by decide +kernel
theorem dX12_reachEnds_305 : decode cX12_reachEnds 305 = .ok (.getfield 53, 3) := by decide +kernel
theorem dX12_reachEnds_308 : decode cX12_reachEnds 308 = .ok (.iload 12, 2) := by decide +kernel
theorem dX12_reachEnds_310 : decode cX12_reachEnds 310 = .ok (.iaload, 1) := by decide +kernel
theorem dX12_reachEnds_311 : decode cX12_reachEnds 311 = .ok (.invokevirtual 238, 3) := by decide +kernel
theorem dX12_reachEnds_314 : decode cX12_reachEnds 314 = .ok (.iinc 11 1, 3) := by decide +kernel
theorem dX12_reachEnds_317 : decode cX12_reachEnds 317 = .ok (.goto (-122), 3) := by decide +kernel
theorem dX12_reachEnds_320 : decode cX12_reachEnds 320 = .ok (.iconst 0, 1) := by decide +kernel
theorem dX12_reachEnds_321 : decode cX12_reachEnds 321 = .ok (.istore 9, 2) := by decide +kernel
theorem dX12_reachEnds_323 : decode cX12_reachEnds 323 = .ok (.iconst 0, 1) := by decide +kernel
theorem dX12_reachEnds_324 : decode cX12_reachEnds 324 = .ok (.istore 10, 2) := by decide +kernel
theorem dX12_reachEnds_326 : decode cX12_reachEnds 326 = .ok (.iconst 1, 1) := by decide +kernel
theorem dX12_reachEnds_327 : decode cX12_reachEnds 327 = .ok (.istore 11, 2) := by decide +kernel
theorem dX12_reachEnds_329 : decode cX12_reachEnds 329 = .ok (.iload 11, 2) := by decide +kernel
theorem dX12_reachEnds_331 : decode cX12_reachEnds 331 = .ok (.iconst 4, 1) := by decide +kernel
theorem dX12_reachEnds_332 : decode cX12_reachEnds 332 = .ok (.if_icmp .gt 124, 3) := by decide +kernel
theorem dX12_reachEnds_335 : decode cX12_reachEnds 335 = .ok (.iload 7, 2) := by decide +kernel
theorem dX12_reachEnds_337 : decode cX12_reachEnds 337 = .ok (.ifCond .le 119, 3) := by decide +kernel
theorem dX12_reachEnds_340 : decode cX12_reachEnds 340 = .ok (.iload 11, 2) := by decide +kernel
theorem dX12_reachEnds_342 : decode cX12_reachEnds 342 = .ok (.iload 6, 2) := by decide +kernel
theorem dX12_reachEnds_344 : decode cX12_reachEnds 344 = .ok (.if_icmp .gt 112, 3) := by decide +kernel
theorem dX12_reachEnds_347 : decode cX12_reachEnds 347 = .ok (.iload 9, 2) := by decide +kernel
theorem dX12_reachEnds_349 : decode cX12_reachEnds 349 = .ok (.aload_n 0, 1) := by decide +kernel
theorem dX12_reachEnds_350 : decode cX12_reachEnds 350 = .ok (.iload 4, 2) := by decide +kernel
theorem dX12_reachEnds_352 : decode cX12_reachEnds 352 = .ok (.iload 6, 2) := by decide +kernel
theorem dX12_reachEnds_354 : decode cX12_reachEnds 354 = .ok (.iadd, 1) := by decide +kernel
theorem dX12_reachEnds_355 : decode cX12_reachEnds 355 = .ok (.iload 11, 2) := by decide +kernel
theorem dX12_reachEnds_357 : decode cX12_reachEnds 357 = .ok (.isub, 1) := by decide +kernel
theorem dX12_reachEnds_358 : decode cX12_reachEnds 358 = .ok (.iload 5, 2) := by decide +kernel
theorem dX12_reachEnds_360 : decode cX12_reachEnds 360 = .ok (.iload 7, 2) := by decide +kernel
theorem dX12_reachEnds_362 : decode cX12_reachEnds 362 = .ok (.iadd, 1) := by decide +kernel
theorem dX12_reachEnds_363 : decode cX12_reachEnds 363 = .ok (.iconst 1, 1) := by decide +kernel
theorem dX12_reachEnds_364 : decode cX12_reachEnds 364 = .ok (.isub, 1) := by decide +kernel
theorem dX12_reachEnds_365 : decode cX12_reachEnds 365 = .ok (.iload_n 2, 1) := by decide +kernel
theorem dX12_reachEnds_366 : decode cX12_reachEnds 366 = .ok (.invokevirtual 229, 3) := by decide +kernel
theorem dX12_reachEnds_369 : decode cX12_reachEnds 369 = .ok (.iadd, 1) := by decide +kernel
theorem dX12_reachEnds_370 : decode cX12_reachEnds 370 = .ok (.istore 9, 2) := by decide +kernel
theorem dX12_reachEnds_372 : decode cX12_reachEnds 372 = .ok (.iload 10, 2) := by decide +kernel
theorem dX12_reachEnds_374 : decode cX12_reachEnds 374 = .ok (.aload_n 0, 1) := by decide +kernel
theorem dX12_reachEnds_375 : decode cX12_reachEnds 375 = .ok (.getfield 15, 3) := by decide +kernel
theorem dX12_reachEnds_378 : decode cX12_reachEnds 378 = .ok (.iload 4, 2) := by decide +kernel
theorem dX12_reachEnds_380 : decode cX12_reachEnds 380 = .ok (.iload 6, 2) := by decide +kernel
theorem dX12_reachEnds_382 : decode cX12_reachEnds 382 = .ok (.iadd, 1) := by decide +kernel
theorem dX12_reachEnds_383 : decode cX12_reachEnds 383 = .ok (.iload 11, 2) := by decide +kernel
theorem dX12_reachEnds_385 : decode cX12_reachEnds 385 = .ok (.isub, 1) := by decide +kernel
theorem dX12_reachEnds_386 : decode cX12_reachEnds 386 = .ok (.iaload, 1) := by decide +kernel
theorem dX12_reachEnds_387 : decode cX12_reachEnds 387 = .ok (.iadd, 1) := by decide +kernel
theorem dX12_reachEnds_388 : decode cX12_reachEnds 388 = .ok (.istore 10, 2) := by decide +kernel
theorem dX12_reachEnds_390 : decode cX12_reachEnds 390 = .ok (.iload 8, 2) := by decide +kernel
theorem dX12_reachEnds_392 : decode cX12_reachEnds 392 = .ok (.iload_n 3, 1) := by decide +kernel
theorem dX12_reachEnds_393 : decode cX12_reachEnds 393 = .ok (.iload 11, 2) := by decide +kernel
theorem dX12_reachEnds_395 : decode cX12_reachEnds 395 = .ok (.imul, 1) := by decide +kernel
theorem dX12_reachEnds_396 : decode cX12_reachEnds 396 = .ok (.isub, 1) := by decide +kernel
theorem dX12_reachEnds_397 : decode cX12_reachEnds 397 = .ok (.iconst 1, 1) := by decide +kernel
theorem dX12_reachEnds_398 : decode cX12_reachEnds 398 = .ok (.isub, 1) := by decide +kernel
theorem dX12_reachEnds_399 : decode cX12_reachEnds 399 = .ok (.istore 12, 2) := by decide +kernel
theorem dX12_reachEnds_401 : decode cX12_reachEnds 401 = .ok (.aload_n 0, 1) := by decide +kernel
theorem dX12_reachEnds_402 : decode cX12_reachEnds 402 = .ok (.iload 8, 2) := by decide +kernel
theorem dX12_reachEnds_404 : decode cX12_reachEnds 404 = .ok (.aload_n 0, 1) := by decide +kernel
theorem dX12_reachEnds_405 : decode cX12_reachEnds 405 = .ok (.getfield 50, 3) := by decide +kernel
theorem dX12_reachEnds_408 : decode cX12_reachEnds 408 = .ok (.iload 12, 2) := by decide +kernel
theorem dX12_reachEnds_410 : decode cX12_reachEnds 410 = .ok (.iaload, 1) := by decide +kernel
theorem dX12_reachEnds_411 : decode cX12_reachEnds 411 = .ok (.aload_n 0, 1) := by decide +kernel
theorem dX12_reachEnds_412 : decode cX12_reachEnds 412 = .ok (.getfield 21, 3) := by decide +kernel
theorem dX12_reachEnds_415 : decode cX12_reachEnds 415 = .ok (.iconst 1, 1) := by decide +kernel
theorem dX12_reachEnds_416 : decode cX12_reachEnds 416 = .ok (.iaload, 1) := by decide +kernel
theorem dX12_reachEnds_417 : decode cX12_reachEnds 417 = .ok (.iload 10, 2) := by decide +kernel
theorem dX12_reachEnds_419 : decode cX12_reachEnds 419 = .ok (.aload_n 0, 1) := by decide +kernel
theorem dX12_reachEnds_420 : decode cX12_reachEnds 420 = .ok (.getfield 15, 3) := by decide +kernel
theorem dX12_reachEnds_423 : decode cX12_reachEnds 423 = .ok (.iload 5, 2) := by decide +kernel
theorem dX12_reachEnds_425 : decode cX12_reachEnds 425 = .ok (.iload 7, 2) := by decide +kernel
theorem dX12_reachEnds_427 : decode cX12_reachEnds 427 = .ok (.iadd, 1) := by decide +kernel
theorem dX12_reachEnds_428 : decode cX12_reachEnds 428 = .ok (.iconst 1, 1) := by decide +kernel
theorem dX12_reachEnds_429 : decode cX12_reachEnds 429 = .ok (.isub, 1) := by decide +kernel
theorem dX12_reachEnds_430 : decode cX12_reachEnds 430 = .ok (.iaload, 1) := by decide +kernel
theorem dX12_reachEnds_431 : decode cX12_reachEnds 431 = .ok (.isub, 1) := by decide +kernel
theorem dX12_reachEnds_432 : decode cX12_reachEnds 432 = .ok (.invokestatic 220, 3) := by decide +kernel
theorem dX12_reachEnds_435 : decode cX12_reachEnds 435 = .ok (.imul, 1) := by decide +kernel
theorem dX12_reachEnds_436 : decode cX12_reachEnds 436 = .ok (.iadd, 1) := by decide +kernel
theorem dX12_reachEnds_437 : decode cX12_reachEnds 437 = .ok (.iload 9, 2) := by decide +kernel
theorem dX12_reachEnds_439 : decode cX12_reachEnds 439 = .ok (.iadd, 1) := by decide +kernel
theorem dX12_reachEnds_440 : decode cX12_reachEnds 440 = .ok (.aload_n 0, 1) := by decide +kernel
theorem dX12_reachEnds_441 : decode cX12_reachEnds 441 = .ok (.getfield 53, 3) := by decide +kernel
theorem dX12_reachEnds_444 : decode cX12_reachEnds 444 = .ok (.iload 12, 2) := by decide +kernel
theorem dX12_reachEnds_446 : decode cX12_reachEnds 446 = .ok (.iaload, 1) := by decide +kernel
theorem dX12_reachEnds_447 : decode cX12_reachEnds 447 = .ok (.invokevirtual 238, 3) := by decide +kernel
theorem dX12_reachEnds_450 : decode cX12_reachEnds 450 = .ok (.iinc 11 1, 3) := by decide +kernel
theorem dX12_reachEnds_453 : decode cX12_reachEnds 453 = .ok (.goto (-124), 3) := by decide +kernel
theorem dX12_reachEnds_456 : decode cX12_reachEnds 456 = .ok (.iinc 7 1, 3) := by decide +kernel
theorem dX12_reachEnds_459 : decode cX12_reachEnds 459 = .ok (.goto (-427), 3) := by decide +kernel
theorem dX12_reachEnds_462 : decode cX12_reachEnds 462 = .ok (.iinc 6 1, 3) := by decide +kernel
theorem dX12_reachEnds_465 : decode cX12_reachEnds 465 = .ok (.goto (-448), 3) := by decide +kernel
theorem dX12_reachEnds_468 : decode cX12_reachEnds 468 = .ok (.return_, 1) := by decide +kernel
set_option maxRecDepth 20000 in
theorem ggX12_near_X12_reachEnds : GoodIn wsX12_near wsX12_reachEnds := goodIn_r _ [15, 3, 7, 6, 9, 16, 17, 18, 19, 20, 21, 22, 23, 24, 14, 25, 26, 27, 28, 29, 30, 40, 41, 42, 43, 44, 45, 46, 47, 48, 49, 50, 51, 52, 53, 54, 55, 56, 57, 58, 59, 60, 61, 62, 63, 64, 65, 66, 67, 68, 69, 70, 71, 72, 73, 74, 75, 76, 77, 78, 79, 80] (by decide +kernel) (by decide +kernel)
set_option maxRecDepth 20000 in
theorem gX12_near_X12_reachEnds : GoodIn wsX12_near (wsV RX12 242 RX12 yX12_reachEnds wsX12_reachEnds) := goodIn_app (goodIn_of _ (by decide +kernel)) ggX12_near_X12_reachEnds
set_option maxRecDepth 20000 in
theorem ggX12_near_X12_find : GoodIn wsX12_near wsX12_find := goodIn_r _ [34, 2, 35, 36, 37, 38, 39, 40, 41, 42, 43, 44, 45, 46, 47, 48, 49, 50, 51, 52, 53, 54, 55, 56, 57, 58, 59, 60, 61, 62, 63, 64, 65, 66, 67, 68, 69, 70, 71, 72, 73, 74, 75, 76, 77, 78, 79, 80] (by decide +kernel) (by decide +kernel)
set_option maxRecDepth 20000 in
theorem gX12_near_X12_find : GoodIn wsX12_near (wsV RX12 216 RX12 yX12_find wsX12_find) := goodIn_app (goodIn_of _ (by decide +kernel)) ggX12_near_X12_find

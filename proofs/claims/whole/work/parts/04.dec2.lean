theorem dX12_pair_0 : decode cX12_pair 0 = .ok (.aload_n 0, 1) := by decide +kernel
theorem dX12_pair_1 : decode cX12_pair 1 = .ok (.getfield 11, 3) := by decide +kernel
theorem dX12_pair_4 : decode cX12_pair 4 = .ok (.iload_n 1, 1) := by decide +kernel
theorem dX12_pair_5 : decode cX12_pair 5 = .ok (.iaload, 1) := by decide +kernel
theorem dX12_pair_6 : decode cX12_pair 6 = .ok (.istore 4, 2) := by decide +kernel
theorem dX12_pair_8 : decode cX12_pair 8 = .ok (.aload_n 0, 1) := by decide +kernel
theorem dX12_pair_9 : decode cX12_pair 9 = .ok (.getfield 11, 3) := by decide +kernel
theorem dX12_pair_12 : decode cX12_pair 12 = .ok (.iload_n 2, 1) := by decide +kernel
theorem dX12_pair_13 : decode cX12_pair 13 = .ok (.iaload, 1) := by decide +kernel
theorem dX12_pair_14 : decode cX12_pair 14 = .ok (.istore 5, 2) := by decide +kernel
theorem dX12_pair_16 : decode cX12_pair 16 = .ok (.iload 4, 2) := by decide +kernel
theorem dX12_pair_18 : decode cX12_pair 18 = .ok (.ifCond .ge 12, 3) := by decide +kernel
theorem dX12_pair_21 : decode cX12_pair 21 = .ok (.iload 5, 2) := by decide +kernel
theorem dX12_pair_23 : decode cX12_pair 23 = .ok (.ifCond .ge 7, 3) := by decide +kernel
theorem dX12_pair_26 : decode cX12_pair 26 = .ok (.iconst 0, 1) := by decide +kernel
theorem dX12_pair_27 : decode cX12_pair 27 = .ok (.goto 39, 3) := by decide +kernel
theorem dX12_pair_30 : decode cX12_pair 30 = .ok (.iload 4, 2) := by decide +kernel
theorem dX12_pair_32 : decode cX12_pair 32 = .ok (.ifCond .lt 8, 3) := by decide +kernel
theorem dX12_pair_35 : decode cX12_pair 35 = .ok (.iload 5, 2) := by decide +kernel
theorem dX12_pair_37 : decode cX12_pair 37 = .ok (.ifCond .ge 12, 3) := by decide +kernel
theorem dX12_pair_40 : decode cX12_pair 40 = .ok (.aload_n 0, 1) := by decide +kernel
theorem dX12_pair_41 : decode cX12_pair 41 = .ok (.getfield 21, 3) := by decide +kernel
theorem dX12_pair_44 : decode cX12_pair 44 = .ok (.iconst 4, 1) := by decide +kernel
theorem dX12_pair_45 : decode cX12_pair 45 = .ok (.iaload, 1) := by decide +kernel
theorem dX12_pair_46 : decode cX12_pair 46 = .ok (.goto 20, 3) := by decide +kernel
theorem dX12_pair_49 : decode cX12_pair 49 = .ok (.aload_n 0, 1) := by decide +kernel
theorem dX12_pair_50 : decode cX12_pair 50 = .ok (.getfield 21, 3) := by decide +kernel
theorem dX12_pair_53 : decode cX12_pair 53 = .ok (.iconst 0, 1) := by decide +kernel
theorem dX12_pair_54 : decode cX12_pair 54 = .ok (.iaload, 1) := by decide +kernel
theorem dX12_pair_55 : decode cX12_pair 55 = .ok (.iload 4, 2) := by decide +kernel
theorem dX12_pair_57 : decode cX12_pair 57 = .ok (.iload_n 3, 1) := by decide +kernel
theorem dX12_pair_58 : decode cX12_pair 58 = .ok (.iadd, 1) := by decide +kernel
theorem dX12_pair_59 : decode cX12_pair 59 = .ok (.iload 5, 2) := by decide +kernel
theorem dX12_pair_61 : decode cX12_pair 61 = .ok (.isub, 1) := by decide +kernel
theorem dX12_pair_62 : decode cX12_pair 62 = .ok (.invokestatic 220, 3) := by decide +kernel
theorem dX12_pair_65 : decode cX12_pair 65 = .ok (.imul, 1) := by decide +kernel
theorem dX12_pair_66 : decode cX12_pair 66 = .ok (.ireturn, 1) := by decide +kernel
set_option maxRecDepth 20000 in
theorem ggX12_ways_X12_pair : GoodIn wsX12_ways wsX12_pair := goodIn_r _ [16, 17, 2, 9, 10, 7, 11, 18, 19, 20, 21, 22, 23, 24, 25, 26, 27, 28, 29, 30, 31, 32, 33, 34, 35, 36, 37, 38, 39, 40, 41, 42, 43, 44, 45, 46, 47, 48, 49, 50, 51, 52, 53, 54, 55, 56, 57, 58] (by decide +kernel) (by decide +kernel)
set_option maxRecDepth 20000 in
theorem gX12_ways_X12_pair : GoodIn wsX12_ways (wsV RX12 229 RX12 yX12_pair wsX12_pair) := goodIn_app (goodIn_of _ (by decide +kernel)) ggX12_ways_X12_pair
theorem dX12_ways_0 : decode cX12_ways 0 = .ok (.bipush 25, 2) := by decide +kernel
theorem dX12_ways_2 : decode cX12_ways 2 = .ok (.istore 6, 2) := by decide +kernel
theorem dX12_ways_4 : decode cX12_ways 4 = .ok (.iload_n 2, 1) := by decide +kernel
theorem dX12_ways_5 : decode cX12_ways 5 = .ok (.istore 7, 2) := by decide +kernel
theorem dX12_ways_7 : decode cX12_ways 7 = .ok (.iload 7, 2) := by decide +kernel
theorem dX12_ways_9 : decode cX12_ways 9 = .ok (.ifCond .lt 413, 3) := by decide +kernel
theorem dX12_ways_12 : decode cX12_ways 12 = .ok (.iload 4, 2) := by decide +kernel
theorem dX12_ways_14 : decode cX12_ways 14 = .ok (.istore 8, 2) := by decide +kernel
theorem dX12_ways_16 : decode cX12_ways 16 = .ok (.iload 8, 2) := by decide +kernel
theorem dX12_ways_18 : decode cX12_ways 18 = .ok (.ifCond .lt 398, 3) := by decide +kernel
theorem dX12_ways_21 : decode cX12_ways 21 = .ok (.iload 7, 2) := by decide +kernel
theorem dX12_ways_23 : decode cX12_ways 23 = .ok (.iload_n 2, 1) := by decide +kernel
theorem dX12_ways_24 : decode cX12_ways 24 = .ok (.if_icmp .ne 14, 3) := by decide +kernel
theorem dX12_ways_27 : decode cX12_ways 27 = .ok (.iload 8, 2) := by decide +kernel
theorem dX12_ways_29 : decode cX12_ways 29 = .ok (.iload 4, 2) := by decide +kernel
theorem dX12_ways_31 : decode cX12_ways 31 = .ok (.if_icmp .ne 7, 3) := by decide +kernel
theorem dX12_ways_34 : decode cX12_ways 34 = .ok (.iconst 0, 1) := by decide +kernel
theorem dX12_ways_35 : decode cX12_ways 35 = .ok (.goto 5, 3) := by decide +kernel
theorem dX12_ways_38 : decode cX12_ways 38 = .ok (.ldc 225, 2) := by decide +kernel
theorem dX12_ways_40 : decode cX12_ways 40 = .ok (.istore 9, 2) := by decide +kernel
theorem dX12_ways_42 : decode cX12_ways 42 = .ok (.iload 7, 2) := by decide +kernel
theorem dX12_ways_44 : decode cX12_ways 44 = .ok (.iload_n 2, 1) := by decide +kernel
theorem dX12_ways_45 : decode cX12_ways 45 = .ok (.if_icmp .ge 42, 3) := by decide +kernel
theorem dX12_ways_48 : decode cX12_ways 48 = .ok (.iload 9, 2) := by decide +kernel
theorem dX12_ways_50 : decode cX12_ways 50 = .ok (.aload_n 0, 1) := by decide +kernel
theorem dX12_ways_51 : decode cX12_ways 51 = .ok (.getfield 21, 3) := by decide +kernel
theorem dX12_ways_54 : decode cX12_ways 54 = .ok (.iconst 2, 1) := by decide +kernel
theorem dX12_ways_55 : decode cX12_ways 55 = .ok (.iaload, 1) := by decide +kernel
theorem dX12_ways_56 : decode cX12_ways 56 = .ok (.aload_n 0, 1) := by decide +kernel
theorem dX12_ways_57 : decode cX12_ways 57 = .ok (.getfield 15, 3) := by decide +kernel
theorem dX12_ways_60 : decode cX12_ways 60 = .ok (.iload_n 1, 1) := by decide +kernel
theorem dX12_ways_61 : decode cX12_ways 61 = .ok (.iload 7, 2) := by decide +kernel
theorem dX12_ways_63 : decode cX12_ways 63 = .ok (.iadd, 1) := by decide +kernel
theorem dX12_ways_64 : decode cX12_ways 64 = .ok (.iaload, 1) := by decide +kernel
theorem dX12_ways_65 : decode cX12_ways 65 = .ok (.imul, 1) := by decide +kernel
theorem dX12_ways_66 : decode cX12_ways 66 = .ok (.aload_n 0, 1) := by decide +kernel
theorem dX12_ways_67 : decode cX12_ways 67 = .ok (.getfield 47, 3) := by decide +kernel
theorem dX12_ways_70 : decode cX12_ways 70 = .ok (.iload 6, 2) := by decide +kernel
theorem dX12_ways_72 : decode cX12_ways 72 = .ok (.iload 7, 2) := by decide +kernel
theorem dX12_ways_74 : decode cX12_ways 74 = .ok (.iconst 1, 1) := by decide +kernel
theorem dX12_ways_75 : decode cX12_ways 75 = .ok (.iadd, 1) := by decide +kernel
theorem dX12_ways_76 : decode cX12_ways 76 = .ok (.imul, 1) := by decide +kernel
theorem dX12_ways_77 : decode cX12_ways 77 = .ok (.iload 8, 2) := by decide +kernel
theorem dX12_ways_79 : decode cX12_ways 79 = .ok (.iadd, 1) := by decide +kernel
theorem dX12_ways_80 : decode cX12_ways 80 = .ok (.iaload, 1) := by decide +kernel
theorem dX12_ways_81 : decode cX12_ways 81 = .ok (.iadd, 1) := by decide +kernel
theorem dX12_ways_82 : decode cX12_ways 82 = .ok (.invokestatic 226, 3) := by decide +kernel
theorem dX12_ways_85 : decode cX12_ways 85 = .ok (.istore 9, 2) := by decide +kernel
theorem dX12_ways_87 : decode cX12_ways 87 = .ok (.iload 8, 2) := by decide +kernel
theorem dX12_ways_89 : decode cX12_ways 89 = .ok (.iload 4, 2) := by decide +kernel
theorem dX12_ways_91 : decode cX12_ways 91 = .ok (.if_icmp .ge 42, 3) := by decide +kernel
theorem dX12_ways_94 : decode cX12_ways 94 = .ok (.iload 9, 2) := by decide +kernel
theorem dX12_ways_96 : decode cX12_ways 96 = .ok (.aload_n 0, 1) := by decide +kernel
theorem dX12_ways_97 : decode cX12_ways 97 = .ok (.getfield 21, 3) := by decide +kernel
theorem dX12_ways_100 : decode cX12_ways 100 = .ok (.iconst 3, 1) := by decide +kernel
theorem dX12_ways_101 : decode cX12_ways 101 = .ok (.iaload, 1) := by decide +kernel
theorem dX12_ways_102 : decode cX12_ways 102 = .ok (.aload_n 0, 1) := by decide +kernel
theorem dX12_ways_103 : decode cX12_ways 103 = .ok (.getfield 15, 3) := by decide +kernel
theorem dX12_ways_106 : decode cX12_ways 106 = .ok (.iload_n 3, 1) := by decide +kernel
theorem dX12_ways_107 : decode cX12_ways 107 = .ok (.iload 8, 2) := by decide +kernel
theorem dX12_ways_109 : decode cX12_ways 109 = .ok (.iadd, 1) := by decide +kernel
theorem dX12_ways_110 : decode cX12_ways 110 = .ok (.iaload, 1) := by decide +kernel
theorem dX12_ways_111 : decode cX12_ways 111 = .ok (.imul, 1) := by decide +kernel
theorem dX12_ways_112 : decode cX12_ways 112 = .ok (.aload_n 0, 1) := by decide +kernel
theorem dX12_ways_113 : decode cX12_ways 113 = .ok (.getfield 47, 3) := by decide +kernel
theorem dX12_ways_116 : decode cX12_ways 116 = .ok (.iload 6, 2) := by decide +kernel
theorem dX12_ways_118 : decode cX12_ways 118 = .ok (.iload 7, 2) := by decide +kernel
theorem dX12_ways_120 : decode cX12_ways 120 = .ok (.imul, 1) := by decide +kernel
theorem dX12_ways_121 : decode cX12_ways 121 = .ok (.iload 8, 2) := by decide +kernel
theorem dX12_ways_123 : decode cX12_ways 123 = .ok (.iadd, 1) := by decide +kernel
theorem dX12_ways_124 : decode cX12_ways 124 = .ok (.iconst 1, 1) := by decide +kernel
theorem dX12_ways_125 : decode cX12_ways 125 = .ok (.iadd, 1) := by decide +kernel
theorem dX12_ways_126 : decode cX12_ways 126 = .ok (.iaload, 1) := by decide +kernel
theorem dX12_ways_127 : decode cX12_ways 127 = .ok (.iadd, 1) := by decide +kernel
theorem dX12_ways_128 : decode cX12_ways 128 = .ok (.invokestatic 226, 3) := by decide +kernel
theorem dX12_ways_131 : decode cX12_ways 131 = .ok (.istore 9, 2) := by decide +kernel
theorem dX12_ways_133 : decode cX12_ways 133 = .ok (.iconst 0, 1) := by decide +kernel
theorem dX12_ways_134 : decode cX12_ways 134 = .ok (.istore 10, 2) := by decide +kernel
theorem dX12_ways_136 : decode cX12_ways 136 = .ok (.iconst 0, 1) := by decide +kernel
theorem dX12_ways_137 : decode cX12_ways 137 = .ok (.istore 11, 2) := by decide +kernel
theorem dX12_ways_139 : decode cX12_ways 139 = .ok (.iconst 1, 1) := by decide +kernel
theorem dX12_ways_140 : decode cX12_ways 140 = .ok (.istore 12, 2) := by decide +kernel
theorem dX12_ways_142 : decode cX12_ways 142 = .ok (.iload 12, 2) := by decide +kernel
theorem dX12_ways_144 : decode cX12_ways 144 = .ok (.iconst 4, 1) := by decide +kernel
theorem dX12_ways_145 : decode cX12_ways 145 = .ok (.if_icmp .gt 119, 3) := by decide +kernel
theorem dX12_ways_148 : decode cX12_ways 148 = .ok (.iload 7, 2) := by decide +kernel
theorem dX12_ways_150 : decode cX12_ways 150 = .ok (.iload_n 2, 1) := by decide +kernel
theorem dX12_ways_151 : decode cX12_ways 151 = .ok (.if_icmp .ge 113, 3) := by decide +kernel
theorem dX12_ways_154 : decode cX12_ways 154 = .ok (.iload 8, 2) := by decide +kernel
theorem dX12_ways_156 : decode cX12_ways 156 = .ok (.iload 12, 2) := by decide +kernel
theorem dX12_ways_158 : decode cX12_ways 158 = .ok (.iadd, 1) := by decide +kernel
theorem dX12_ways_159 : decode cX12_ways 159 = .ok (.iload 4, 2) := by decide +kernel
theorem dX12_ways_161 : decode cX12_ways 161 = .ok (.if_icmp .gt 103, 3) := by decide +kernel
theorem dX12_ways_164 : decode cX12_ways 164 = .ok (.iload 10, 2) := by decide +kernel
theorem dX12_ways_166 : decode cX12_ways 166 = .ok (.aload_n 0, 1) := by decide +kernel
theorem dX12_ways_167 : decode cX12_ways 167 = .ok (.iload_n 1, 1) := by decide +kernel
theorem dX12_ways_168 : decode cX12_ways 168 = .ok (.iload 7, 2) := by decide +kernel
theorem dX12_ways_170 : decode cX12_ways 170 = .ok (.iadd, 1) := by decide +kernel
theorem dX12_ways_171 : decode cX12_ways 171 = .ok (.iload_n 3, 1) := by decide +kernel
theorem dX12_ways_172 : decode cX12_ways 172 = .ok (.iload 8, 2) := by decide +kernel
theorem dX12_ways_174 : decode cX12_ways 174 = .ok (.iadd, 1) := by decide +kernel
theorem dX12_ways_175 : decode cX12_ways 175 = .ok (.iload 12, 2) := by decide +kernel
theorem dX12_ways_177 : decode cX12_ways 177 = .ok (.iadd, 1) := by decide +kernel
theorem dX12_ways_178 : decode cX12_ways 178 = .ok (.iconst 1, 1) := by decide +kernel
theorem dX12_ways_179 : decode cX12_ways 179 = .ok (.isub, 1) := by decide +kernel
theorem dX12_ways_180 : decode cX12_ways 180 = .ok (.iload 5, 2) := by decide +kernel
theorem dX12_ways_182 : decode cX12_ways 182 = .ok (.invokevirtual 229, 3) := by decide +kernel
theorem dX12_ways_185 : decode cX12_ways 185 = .ok (.iadd, 1) := by decide +kernel
theorem dX12_ways_186 : decode cX12_ways 186 = .ok (.istore 10, 2) := by decide +kernel
theorem dX12_ways_188 : decode cX12_ways 188 = .ok (.iload 11, 2) := by decide +kernel
theorem dX12_ways_190 : decode cX12_ways 190 = .ok (.aload_n 0, 1) := by decide +kernel
theorem dX12_ways_191 : decode cX12_ways 191 = .ok (.getfield 15, 3) := by decide +kernel
theorem dX12_ways_194 : decode cX12_ways 194 = .ok (.iload_n 3, 1) := by decide +kernel
theorem dX12_ways_195 : decode cX12_ways 195 = .ok (.iload 8, 2) := by decide +kernel
theorem dX12_ways_197 : decode cX12_ways 197 = .ok (.iadd, 1) := by decide +kernel
theorem dX12_ways_198 : decode cX12_ways 198 = .ok (.iload 12, 2) := by decide +kernel
theorem dX12_ways_200 : decode cX12_ways 200 = .ok (.iadd, 1) := by decide +kernel
theorem dX12_ways_201 : decode cX12_ways 201 = .ok (.iconst 1, 1) := by decide +kernel
theorem dX12_ways_202 : decode cX12_ways 202 = .ok (.isub, 1) := by decide +kernel
theorem dX12_ways_203 : decode cX12_ways 203 = .ok (.iaload, 1) := by decide +kernel
theorem dX12_ways_204 : decode cX12_ways 204 = .ok (.iadd, 1) := by decide +kernel
theorem dX12_ways_205 : decode cX12_ways 205 = .ok (.istore 11, 2) := by decide +kernel
theorem dX12_ways_207 : decode cX12_ways 207 = .ok (.iload 9, 2) := by decide +kernel
theorem dX12_ways_209 : decode cX12_ways 209 = .ok (.aload_n 0, 1) := by decide +kernel
theorem dX12_ways_210 : decode cX12_ways 210 = .ok (.getfield 21, 3) := by decide +kernel
theorem dX12_ways_213 : decode cX12_ways 213 = .ok (.iconst 1, 1) := by decide +kernel
theorem dX12_ways_214 : decode cX12_ways 214 = .ok (.iaload, 1) := by decide +kernel
theorem dX12_ways_215 : decode cX12_ways 215 = .ok (.aload_n 0, 1) := by decide +kernel
theorem dX12_ways_216 : decode cX12_ways 216 = .ok (.getfield 15, 3) := by decide +kernel
theorem dX12_ways_219 : decode cX12_ways 219 = .ok (.iload_n 1, 1) := by decide +kernel
theorem dX12_ways_220 : decode cX12_ways 220 = .ok (.iload 7, 2) := by decide +kernel
theorem dX12_ways_222 : decode cX12_ways 222 = .ok (.iadd, 1) := by decide +kernel
theorem dX12_ways_223 : decode cX12_ways 223 = .ok (.iaload, 1) := by decide +kernel
theorem dX12_ways_224 : decode cX12_ways 224 = .ok (.iload 11, 2) := by decide +kernel
theorem dX12_ways_226 : decode cX12_ways 226 = .ok (.isub, 1) := by decide +kernel
theorem dX12_ways_227 : decode cX12_ways 227 = .ok (.invokestatic 220, 3) := by decide +kernel
theorem dX12_ways_230 : decode cX12_ways 230 = .ok (.imul, 1) := by decide +kernel
theorem dX12_ways_231 : decode cX12_ways 231 = .ok (.iload 10, 2) := by decide +kernel
theorem dX12_ways_233 : decode cX12_ways 233 = .ok (.iadd, 1) := by decide +kernel
theorem dX12_ways_234 : decode cX12_ways 234 = .ok (.aload_n 0, 1) := by decide +kernel
theorem dX12_ways_235 : decode cX12_ways 235 = .ok (.getfield 47, 3) := by decide +kernel
theorem dX12_ways_238 : decode cX12_ways 238 = .ok (.iload 6, 2) := by decide +kernel
theorem dX12_ways_240 : decode cX12_ways 240 = .ok (.iload 7, 2) := by decide +kernel
theorem dX12_ways_242 : decode cX12_ways 242 = .ok (.iconst 1, 1) := by decide +kernel
theorem dX12_ways_243 : decode cX12_ways 243 = .ok (.iadd, 1) := by decide +kernel
theorem dX12_ways_244 : decode cX12_ways 244 = .ok (.imul, 1) := by decide +kernel
theorem dX12_ways_245 : decode cX12_ways 245 = .ok (.iload 8, 2) := by decide +kernel
theorem dX12_ways_247 : decode cX12_ways 247 = .ok (.iadd, 1) := by decide +kernel
theorem dX12_ways_248 : decode cX12_ways 248 = .ok (.iload 12, 2) := by decide +kernel
theorem dX12_ways_250 : decode cX12_ways 250 = .ok (.iadd, 1) := by decide +kernel
theorem dX12_ways_251 : decode cX12_ways 251 = .ok (.iaload, 1) := by decide +kernel
theorem dX12_ways_252 : decode cX12_ways 252 = .ok (.iadd, 1) := by decide +kernel
theorem dX12_ways_253 : decode cX12_ways 253 = .ok (.invokestatic 226, 3) := by decide +kernel
theorem dX12_ways_256 : decode cX12_ways 256 = .ok (.istore 9, 2) := by decide +kernel
theorem dX12_ways_258 : decode cX12_ways 258 = .ok (.iinc 12 1, 3) := by decide +kernel
theorem dX12_ways_261 : decode cX12_ways 261 = .ok (.goto (-119), 3) := by decide +kernel
theorem dX12_ways_264 : decode cX12_ways 264 = .ok (.iconst 0, 1) := by decide +kernel
theorem dX12_ways_265 : decode cX12_ways 265 = .ok (.istore 10, 2) := by decide +kernel
theorem dX12_ways_267 : decode cX12_ways 267 = .ok (.iconst 0, 1) := by decide +kernel
theorem dX12_ways_268 : decode cX12_ways 268 = .ok (.istore 11, 2) := by decide +kernel
theorem dX12_ways_270 : decode cX12_ways 270 = .ok (.iconst 1, 1) := by decide +kernel
theorem dX12_ways_271 : decode cX12_ways 271 = .ok (.istore 12, 2) := by decide +kernel
theorem dX12_ways_273 : decode cX12_ways 273 = .ok (.iload 12, 2) := by decide +kernel
theorem dX12_ways_275 : decode cX12_ways 275 = .ok (.iconst 4, 1) := by decide +kernel
theorem dX12_ways_276 : decode cX12_ways 276 = .ok (.if_icmp .gt 119, 3) := by decide +kernel
theorem dX12_ways_279 : decode cX12_ways 279 = .ok (.iload 8, 2) := by decide +kernel
theorem dX12_ways_281 : decode cX12_ways 281 = .ok (.iload 4, 2) := by decide +kernel
theorem dX12_ways_283 : decode cX12_ways 283 = .ok (.if_icmp .ge 112, 3) := by decide +kernel
theorem dX12_ways_286 : decode cX12_ways 286 = .ok (.iload 7, 2) := by decide +kernel
theorem dX12_ways_288 : decode cX12_ways 288 = .ok (.iload 12, 2) := by decide +kernel
theorem dX12_ways_290 : decode cX12_ways 290 = .ok (.iadd, 1) := by decide +kernel
theorem dX12_ways_291 : decode cX12_ways 291 = .ok (.iload_n 2, 1) := by decide +kernel
theorem dX12_ways_292 : decode cX12_ways 292 = .ok (.if_icmp .gt 103, 3) := by decide +kernel
theorem dX12_ways_295 : decode cX12_ways 295 = .ok (.iload 10, 2) := by decide +kernel
theorem dX12_ways_297 : decode cX12_ways 297 = .ok (.aload_n 0, 1) := by decide +kernel
theorem dX12_ways_298 : decode cX12_ways 298 = .ok (.iload_n 1, 1) := by decide +kernel
theorem dX12_ways_299 : decode cX12_ways 299 = .ok (.iload 7, 2) := by decide +kernel
theorem dX12_ways_301 : decode cX12_ways 301 = .ok (.iadd, 1) := by decide +kernel
theorem dX12_ways_302 : decode cX12_ways 302 = .ok (.iload 12, 2) := by decide +kernel
theorem dX12_ways_304 : decode cX12_ways 304 = .ok (.iadd, 1) := by decide +kernel
theorem dX12_ways_305 : decode cX12_ways 305 = .ok (.iconst 1, 1) := by decide +kernel
theorem dX12_ways_306 : decode cX12_ways 306 = .ok (.isub, 1) := by decide +kernel
theorem dX12_ways_307 : decode cX12_ways 307 = .ok (.iload_n 3, 1) := by decide +kernel
theorem dX12_ways_308 : decode cX12_ways 308 = .ok (.iload 8, 2) := by decide +kernel
theorem dX12_ways_310 : decode cX12_ways 310 = .ok (.iadd, 1) := by decide +kernel
theorem dX12_ways_311 : decode cX12_ways 311 = .ok (.iload 5, 2) := by decide +kernel
theorem dX12_ways_313 : decode cX12_ways 313 = .ok (.invokevirtual 229, 3) := by decide +kernel
theorem dX12_ways_316 : decode cX12_ways 316 = .ok (.iadd, 1) := by decide +kernel
theorem dX12_ways_317 : decode cX12_ways 317 = .ok (.istore 10, 2) := by decide +kernel
theorem dX12_ways_319 : decode cX12_ways 319 = .ok (.iload 11, 2) := by decide +kernel
theorem dX12_ways_321 : decode cX12_ways 321 = .ok (.aload_n 0, 1) := by decide +kernel
theorem dX12_ways_322 : decode cX12_ways 322 = .ok (.getfield 15, 3) := by decide +kernel
theorem dX12_ways_325 : decode cX12_ways 325 = .ok (.iload_n 1, 1) := by decide +kernel
theorem dX12_ways_326 : decode cX12_ways 326 = .ok (.iload 7, 2) := by decide +kernel
theorem dX12_ways_328 : decode cX12_ways 328 = .ok (.iadd, 1) := by decide +kernel
theorem dX12_ways_329 : decode cX12_ways 329 = .ok (.iload 12, 2) := by decide +kernel
theorem dX12_ways_331 : decode cX12_ways 331 = .ok (.iadd, 1) := by decide +kernel
theorem dX12_ways_332 : decode cX12_ways 332 = .ok (.iconst 1, 1) := by decide +kernel
theorem dX12_ways_333 : decode cX12_ways 333 = .ok (.isub, 1) := by decide +kernel
theorem dX12_ways_334 : decode cX12_ways 334 = .ok (.iaload, 1) := by decide +kernel
theorem dX12_ways_335 : decode cX12_ways 335 = .ok (.iadd, 1) := by decide +kernel
theorem dX12_ways_336 : decode cX12_ways 336 = .ok (.istore 11, 2) := by decide +kernel
theorem dX12_ways_338 : decode cX12_ways 338 = .ok (.iload 9, 2) := by decide +kernel
theorem dX12_ways_340 : decode cX12_ways 340 = .ok (.aload_n 0, 1) := by decide +kernel
theorem dX12_ways_341 : decode cX12_ways 341 = .ok (.getfield 21, 3) := by decide +kernel
theorem dX12_ways_344 : decode cX12_ways 344 = .ok (.iconst 1, 1) := by decide +kernel
theorem dX12_ways_345 : decode cX12_ways 345 = .ok (.iaload, 1) := by decide +kernel
theorem dX12_ways_346 : decode cX12_ways 346 = .ok (.iload 11, 2) := by decide +kernel
theorem dX12_ways_348 : decode cX12_ways 348 = .ok (.aload_n 0, 1) := by decide +kernel
theorem dX12_ways_349 : decode cX12_ways 349 = .ok (.getfield 15, 3) := by decide +kernel
theorem dX12_ways_352 : decode cX12_ways 352 = .ok (.iload_n 3, 1) := by decide +kernel
theorem dX12_ways_353 : decode cX12_ways 353 = .ok (.iload 8, 2) := by decide +kernel
theorem dX12_ways_355 : decode cX12_ways 355 = .ok (.iadd, 1) := by decide +kernel
theorem dX12_ways_356 : decode cX12_ways 356 = .ok (.iaload, 1) := by decide +kernel
theorem dX12_ways_357 : decode cX12_ways 357 = .ok (.isub, 1) := by decide +kernel
theorem dX12_ways_358 : decode cX12_ways 358 = .ok (.invokestatic 220, 3) := by decide +kernel
theorem dX12_ways_361 : decode cX12_ways 361 = .ok (.imul, 1) := by decide +kernel
theorem dX12_ways_362 : decode cX12_ways 362 = .ok (.iload 10, 2) := by decide +kernel
theorem dX12_ways_364 : decode cX12_ways 364 = .ok (.iadd, 1) := by decide +kernel
theorem dX12_ways_365 : decode cX12_ways 365 = .ok (.aload_n 0, 1) := by decide +kernel
theorem dX12_ways_366 : decode cX12_ways 366 = .ok (.getfield 47, 3) := by decide +kernel
theorem dX12_ways_369 : decode cX12_ways 369 = .ok (.iload 6, 2) := by decide +kernel
theorem dX12_ways_371 : decode cX12_ways 371 = .ok (.iload 7, 2) := by decide +kernel
theorem dX12_ways_373 : decode cX12_ways 373 = .ok (.iload 12, 2) := by decide +kernel
theorem dX12_ways_375 : decode cX12_ways 375 = .ok (.iadd, 1) := by decide +kernel
theorem dX12_ways_376 : decode cX12_ways 376 = .ok (.imul, 1) := by decide +kernel
theorem dX12_ways_377 : decode cX12_ways 377 = .ok (.iload 8, 2) := by decide +kernel
theorem dX12_ways_379 : decode cX12_ways 379 = .ok (.iadd, 1) := by decide +kernel
theorem dX12_ways_380 : decode cX12_ways 380 = .ok (.iconst 1, 1) := by decide +kernel
theorem dX12_ways_381 : decode cX12_ways 381 = .ok (.iadd, 1) := by decide +kernel
theorem dX12_ways_382 : decode cX12_ways 382 = .ok (.iaload, 1) := by decide +kernel
theorem dX12_ways_383 : decode cX12_ways 383 = .ok (.iadd, 1) := by decide +kernel
theorem dX12_ways_384 : decode cX12_ways 384 = .ok (.invokestatic 226, 3) := by decide +kernel
theorem dX12_ways_387 : decode cX12_ways 387 = .ok (.istore 9, 2) := by decide +kernel
theorem dX12_ways_389 : decode cX12_ways 389 = .ok (.iinc 12 1, 3) := by decide +kernel
theorem dX12_ways_392 : decode cX12_ways 392 = .ok (.goto (-119), 3) := by decide +kernel
theorem dX12_ways_395 : decode cX12_ways 395 = .ok (.aload_n 0, 1) := by decide +kernel
theorem dX12_ways_396 : decode cX12_ways 396 = .ok (.getfield 47, 3) := by decide +kernel
theorem dX12_ways_399 : decode cX12_ways 399 = .ok (.iload 6, 2) := by decide +kernel
theorem dX12_ways_401 : decode cX12_ways 401 = .ok (.iload 7, 2) := by decide +kernel
theorem dX12_ways_403 : decode cX12_ways 403 = .ok (.imul, 1) := by decide +kernel
theorem dX12_ways_404 : decode cX12_ways 404 = .ok (.iload 8, 2) := by decide +kernel
theorem dX12_ways_406 : decode cX12_ways 406 = .ok (.iadd, 1) := by decide +kernel
theorem dX12_ways_407 : decode cX12_ways 407 = .ok (.iload 9, 2) := by decide +kernel
theorem dX12_ways_409 : decode cX12_ways 409 = .ok (.iastore, 1) := by decide +kernel
theorem dX12_ways_410 : decode cX12_ways 410 = .ok (.iinc 8 (-1), 3) := by decide +kernel
theorem dX12_ways_413 : decode cX12_ways 413 = .ok (.goto (-397), 3) := by decide +kernel
theorem dX12_ways_416 : decode cX12_ways 416 = .ok (.iinc 7 (-1), 3) := by decide +kernel
theorem dX12_ways_419 : decode cX12_ways 419 = .ok (.goto (-412), 3) := by decide +kernel
theorem dX12_ways_422 : decode cX12_ways 422 = .ok (.return_, 1) := by decide +kernel
set_option maxRecDepth 20000 in
theorem ggX12_distanceOf_X12_ways : GoodIn wsX12_distanceOf wsX12_ways := goodIn_r _ [7, 8, 9, 10, 2, 11, 12, 13, 14, 15, 16, 17, 18, 19, 20, 6, 21, 22, 23, 24, 25, 26, 27, 28, 29, 30, 31, 32, 33, 34, 35, 36, 37, 38, 39, 40, 41, 42, 43, 44, 45, 46, 47, 48, 49, 50, 51, 52, 53, 54, 55, 56, 57, 58, 59, 60, 61, 62, 63] (by decide +kernel) (by decide +kernel)
set_option maxRecDepth 20000 in
theorem gX12_distanceOf_X12_ways : GoodIn wsX12_distanceOf (wsV RX12 232 RX12 yX12_ways wsX12_ways) := goodIn_app (goodIn_of _ (by decide +kernel)) ggX12_distanceOf_X12_ways
theorem dX12_distanceOf_0 : decode cX12_distanceOf 0 = .ok (.aload_n 0, 1) := by decide +kernel
theorem dX12_distanceOf_1 : decode cX12_distanceOf 1 = .ok (.bipush 24, 2) := by decide +kernel
theorem dX12_distanceOf_3 : decode cX12_distanceOf 3 = .ok (.iload_n 1, 1) := by decide +kernel
theorem dX12_distanceOf_4 : decode cX12_distanceOf 4 = .ok (.imul, 1) := by decide +kernel
theorem dX12_distanceOf_5 : decode cX12_distanceOf 5 = .ok (.aload_n 0, 1) := by decide +kernel
theorem dX12_distanceOf_6 : decode cX12_distanceOf 6 = .ok (.getfield 18, 3) := by decide +kernel
theorem dX12_distanceOf_9 : decode cX12_distanceOf 9 = .ok (.iload_n 1, 1) := by decide +kernel
theorem dX12_distanceOf_10 : decode cX12_distanceOf 10 = .ok (.iaload, 1) := by decide +kernel
theorem dX12_distanceOf_11 : decode cX12_distanceOf 11 = .ok (.bipush 24, 2) := by decide +kernel
theorem dX12_distanceOf_13 : decode cX12_distanceOf 13 = .ok (.iload_n 2, 1) := by decide +kernel
theorem dX12_distanceOf_14 : decode cX12_distanceOf 14 = .ok (.imul, 1) := by decide +kernel
theorem dX12_distanceOf_15 : decode cX12_distanceOf 15 = .ok (.aload_n 0, 1) := by decide +kernel
theorem dX12_distanceOf_16 : decode cX12_distanceOf 16 = .ok (.getfield 18, 3) := by decide +kernel
theorem dX12_distanceOf_19 : decode cX12_distanceOf 19 = .ok (.iload_n 2, 1) := by decide +kernel
theorem dX12_distanceOf_20 : decode cX12_distanceOf 20 = .ok (.iaload, 1) := by decide +kernel
theorem dX12_distanceOf_21 : decode cX12_distanceOf 21 = .ok (.iload_n 3, 1) := by decide +kernel
theorem dX12_distanceOf_22 : decode cX12_distanceOf 22 = .ok (.invokevirtual 232, 3) := by decide +kernel
theorem dX12_distanceOf_25 : decode cX12_distanceOf 25 = .ok (.aload_n 0, 1) := by decide +kernel
theorem dX12_distanceOf_26 : decode cX12_distanceOf 26 = .ok (.getfield 47, 3) := by decide +kernel
theorem dX12_distanceOf_29 : decode cX12_distanceOf 29 = .ok (.iconst 0, 1) := by decide +kernel
theorem dX12_distanceOf_30 : decode cX12_distanceOf 30 = .ok (.iaload, 1) := by decide +kernel
theorem dX12_distanceOf_31 : decode cX12_distanceOf 31 = .ok (.ireturn, 1) := by decide +kernel
set_option maxRecDepth 20000 in
theorem ggX12_distance_X12_isTune : GoodIn wsX12_distance wsX12_isTune := goodIn_r _ [5, 6, 7, 33, 34, 35, 36, 37, 38, 39, 40, 41, 42, 43, 44, 45, 46, 47, 48, 49, 50, 51, 52, 53, 54, 55, 56, 57, 58, 59, 60, 61, 62, 63, 64, 65, 66, 67, 68, 69, 70, 71, 72, 73] (by decide +kernel) (by decide +kernel)
set_option maxRecDepth 20000 in
theorem gX12_distance_X12_isTune : GoodIn wsX12_distance (wsV RX12 93 RX12 yX12_isTune wsX12_isTune) := goodIn_app (goodIn_of _ (by decide +kernel)) ggX12_distance_X12_isTune
set_option maxRecDepth 20000 in
theorem ggX12_distance_X12_distanceOf : GoodIn wsX12_distance wsX12_distanceOf := goodIn_r _ [11, 12, 13, 14, 15, 16, 4, 17, 18, 19, 20, 21, 22, 23, 24, 25, 26, 27, 28, 29, 30, 31, 32, 33, 34, 35, 36, 37, 38, 39, 40, 41, 42, 43, 44, 45, 46, 47, 48, 49, 50, 51, 52, 53, 54, 55, 56, 57, 58, 59, 60, 61, 62, 63, 64, 65, 66, 67, 68, 69, 70, 71, 72, 73] (by decide +kernel) (by decide +kernel)
set_option maxRecDepth 20000 in
theorem gX12_distance_X12_distanceOf : GoodIn wsX12_distance (wsV RX12 235 RX12 yX12_distanceOf wsX12_distanceOf) := goodIn_app (goodIn_of _ (by decide +kernel)) ggX12_distance_X12_distanceOf
theorem dX12_distance_0 : decode cX12_distance 0 = .ok (.aload_n 0, 1) := by decide +kernel
theorem dX12_distance_1 : decode cX12_distance 1 = .ok (.iload_n 1, 1) := by decide +kernel
theorem dX12_distance_2 : decode cX12_distance 2 = .ok (.invokevirtual 93, 3) := by decide +kernel
theorem dX12_distance_5 : decode cX12_distance 5 = .ok (.ifCond .eq 11, 3) := by decide +kernel
theorem dX12_distance_8 : decode cX12_distance 8 = .ok (.aload_n 0, 1) := by decide +kernel
theorem dX12_distance_9 : decode cX12_distance 9 = .ok (.iload_n 2, 1) := by decide +kernel
theorem dX12_distance_10 : decode cX12_distance 10 = .ok (.invokevirtual 93, 3) := by decide +kernel
theorem dX12_distance_13 : decode cX12_distance 13 = .ok (.ifCond .ne 5, 3) := by decide +kernel
theorem dX12_distance_16 : decode cX12_distance 16 = .ok (.iconst (-1), 1) := by decide +kernel
theorem dX12_distance_17 : decode cX12_distance 17 = .ok (.ireturn, 1) := by decide +kernel
theorem dX12_distance_18 : decode cX12_distance 18 = .ok (.iload_n 3, 1) := by decide +kernel
theorem dX12_distance_19 : decode cX12_distance 19 = .ok (.bipush (-24), 2) := by decide +kernel
theorem dX12_distance_21 : decode cX12_distance 21 = .ok (.if_icmp .lt 9, 3) := by decide +kernel
theorem dX12_distance_24 : decode cX12_distance 24 = .ok (.iload_n 3, 1) := by decide +kernel
theorem dX12_distance_25 : decode cX12_distance 25 = .ok (.bipush 24, 2) := by decide +kernel
theorem dX12_distance_27 : decode cX12_distance 27 = .ok (.if_icmp .le 8, 3) := by decide +kernel
theorem dX12_distance_30 : decode cX12_distance 30 = .ok (.bipush (-2), 2) := by decide +kernel
theorem dX12_distance_32 : decode cX12_distance 32 = .ok (.goto 10, 3) := by decide +kernel
theorem dX12_distance_35 : decode cX12_distance 35 = .ok (.aload_n 0, 1) := by decide +kernel
theorem dX12_distance_36 : decode cX12_distance 36 = .ok (.iload_n 1, 1) := by decide +kernel
theorem dX12_distance_37 : decode cX12_distance 37 = .ok (.iload_n 2, 1) := by decide +kernel
theorem dX12_distance_38 : decode cX12_distance 38 = .ok (.iload_n 3, 1) := by decide +kernel
theorem dX12_distance_39 : decode cX12_distance 39 = .ok (.invokevirtual 235, 3) := by decide +kernel
theorem dX12_distance_42 : decode cX12_distance 42 = .ok (.ireturn, 1) := by decide +kernel
theorem dX12_better_0 : decode cX12_better 0 = .ok (.iload_n 2, 1) := by decide +kernel
theorem dX12_better_1 : decode cX12_better 1 = .ok (.aload_n 0, 1) := by decide +kernel
theorem dX12_better_2 : decode cX12_better 2 = .ok (.getfield 50, 3) := by decide +kernel
theorem dX12_better_5 : decode cX12_better 5 = .ok (.iload_n 1, 1) := by decide +kernel
theorem dX12_better_6 : decode cX12_better 6 = .ok (.iaload, 1) := by decide +kernel
theorem dX12_better_7 : decode cX12_better 7 = .ok (.if_icmp .lt 23, 3) := by decide +kernel
theorem dX12_better_10 : decode cX12_better 10 = .ok (.iload_n 2, 1) := by decide +kernel
theorem dX12_better_11 : decode cX12_better 11 = .ok (.aload_n 0, 1) := by decide +kernel
theorem dX12_better_12 : decode cX12_better 12 = .ok (.getfield 50, 3) := by decide +kernel
theorem dX12_better_15 : decode cX12_better 15 = .ok (.iload_n 1, 1) := by decide +kernel
theorem dX12_better_16 : decode cX12_better 16 = .ok (.iaload, 1) := by decide +kernel
theorem dX12_better_17 : decode cX12_better 17 = .ok (.if_icmp .ne 27, 3) := by decide +kernel
theorem dX12_better_20 : decode cX12_better 20 = .ok (.iload_n 3, 1) := by decide +kernel
theorem dX12_better_21 : decode cX12_better 21 = .ok (.aload_n 0, 1) := by decide +kernel
theorem dX12_better_22 : decode cX12_better 22 = .ok (.getfield 53, 3) := by decide +kernel
theorem dX12_better_25 : decode cX12_better 25 = .ok (.iload_n 1, 1) := by decide +kernel
theorem dX12_better_26 : decode cX12_better 26 = .ok (.iaload, 1) := by decide +kernel
theorem dX12_better_27 : decode cX12_better 27 = .ok (.if_icmp .le 17, 3) := by decide +kernel
theorem dX12_better_30 : decode cX12_better 30 = .ok (.aload_n 0, 1) := by decide +kernel
theorem dX12_better_31 : decode cX12_better 31 = .ok (.getfield 50, 3) := by decide +kernel
theorem dX12_better_34 : decode cX12_better 34 = .ok (.iload_n 1, 1) := by decide +kernel
theorem dX12_better_35 : decode cX12_better 35 = .ok (.iload_n 2, 1) := by decide +kernel
theorem dX12_better_36 : decode cX12_better 36 = .ok (.iastore, 1) := by decide +kernel
theorem dX12_better_37 : decode cX12_better 37 = .ok (.aload_n 0, 1) := by decide +kernel
theorem dX12_better_38 : decode cX12_better 38 = .ok (.getfield 53, 3) := by decide +kernel
theorem dX12_better_41 : decode cX12_better 41 = .ok (.iload_n 1, 1) := by decide +kernel
theorem dX12_better_42 : decode cX12_better 42 = .ok (.iload_n 3, 1) := by decide +kernel
theorem dX12_better_43 : decode cX12_better 43 = .ok (.iastore, 1) := by decide +kernel
theorem dX12_better_44 : decode cX12_better 44 = .ok (.return_, 1) := by decide +kernel
set_option maxRecDepth 20000 in
theorem ggX12_reachEnds_X12_better : GoodIn wsX12_reachEnds wsX12_better := goodIn_r _ [15, 2, 4, 21, 22, 23, 24, 25, 26, 27, 28, 29, 30, 31, 32, 33, 34, 35, 36, 37, 38, 39, 40, 41, 42, 43, 44, 45, 46, 47, 48, 49, 50, 51, 52, 53, 54, 55, 56, 57, 58, 59, 60, 61] (by decide +kernel) (by decide +kernel)
set_option maxRecDepth 20000 in
theorem gX12_reachEnds_X12_better : GoodIn wsX12_reachEnds (wsV RX12 238 RX12 yX12_better wsX12_better) := goodIn_app (goodIn_of _ (by decide +kernel)) ggX12_reachEnds_X12_better
set_option maxRecDepth 20000 in
theorem ggX12_reachEnds_X12_pair : GoodIn wsX12_reachEnds wsX12_pair := goodIn_r _ [19, 20, 5, 7, 8, 9, 10, 21, 22, 23, 24, 25, 26, 27, 28, 29, 30, 31, 32, 33, 34, 35, 36, 37, 38, 39, 40, 41, 42, 43, 44, 45, 46, 47, 48, 49, 50, 51, 52, 53, 54, 55, 56, 57, 58, 59, 60, 61] (by decide +kernel) (by decide +kernel)
set_option maxRecDepth 20000 in
theorem gX12_reachEnds_X12_pair : GoodIn wsX12_reachEnds (wsV RX12 229 RX12 yX12_pair wsX12_pair) := goodIn_app (goodIn_of _ (by decide +kernel)) ggX12_reachEnds_X12_pair
theorem dX12_reachEnds_0 : decode cX12_reachEnds 0 = .ok (.bipush 25, 2) := by decide +kernel
theorem dX12_reachEnds_2 : decode cX12_reachEnds 2 = .ok (.istore_n 3, 1) := by decide +kernel
theorem dX12_reachEnds_3 : decode cX12_reachEnds 3 = .ok (.sipush 192, 3) := by decide +kernel
theorem dX12_reachEnds_6 : decode cX12_reachEnds 6 = .ok (.istore 4, 2) := by decide +kernel
theorem dX12_reachEnds_8 : decode cX12_reachEnds 8 = .ok (.bipush 24, 2) := by decide +kernel
theorem dX12_reachEnds_10 : decode cX12_reachEnds 10 = .ok (.iload_n 1, 1) := by decide +kernel
theorem dX12_reachEnds_11 : decode cX12_reachEnds 11 = .ok (.imul, 1) := by decide +kernel
theorem dX12_reachEnds_12 : decode cX12_reachEnds 12 = .ok (.istore 5, 2) := by decide +kernel
theorem dX12_reachEnds_14 : decode cX12_reachEnds 14 = .ok (.iconst 0, 1) := by decide +kernel
theorem dX12_reachEnds_15 : decode cX12_reachEnds 15 = .ok (.istore 6, 2) := by decide +kernel
theorem dX12_reachEnds_17 : decode cX12_reachEnds 17 = .ok (.iload 6, 2) := by decide +kernel
theorem dX12_reachEnds_19 : decode cX12_reachEnds 19 = .ok (.aload_n 0, 1) := by decide +kernel
theorem dX12_reachEnds_20 : decode cX12_reachEnds 20 = .ok (.getfield 18, 3) := by decide +kernel
theorem dX12_reachEnds_23 : decode cX12_reachEnds 23 = .ok (.bipush 8, 2) := by decide +kernel
theorem dX12_reachEnds_25 : decode cX12_reachEnds 25 = .ok (.iaload, 1) := by decide +kernel
theorem dX12_reachEnds_26 : decode cX12_reachEnds 26 = .ok (.if_icmp .gt 442, 3) := by decide +kernel
theorem dX12_reachEnds_29 : decode cX12_reachEnds 29 = .ok (.iconst 0, 1) := by decide +kernel
theorem dX12_reachEnds_30 : decode cX12_reachEnds 30 = .ok (.istore 7, 2) := by decide +kernel
theorem dX12_reachEnds_32 : decode cX12_reachEnds 32 = .ok (.iload 7, 2) := by decide +kernel
theorem dX12_reachEnds_34 : decode cX12_reachEnds 34 = .ok (.aload_n 0, 1) := by decide +kernel
theorem dX12_reachEnds_35 : decode cX12_reachEnds 35 = .ok (.getfield 18, 3) := by decide +kernel
theorem dX12_reachEnds_38 : decode cX12_reachEnds 38 = .ok (.iload_n 1, 1) := by decide +kernel
theorem dX12_reachEnds_39 : decode cX12_reachEnds 39 = .ok (.iaload, 1) := by decide +kernel
theorem dX12_reachEnds_40 : decode cX12_reachEnds 40 = .ok (.if_icmp .gt 422, 3) := by decide +kernel
theorem dX12_reachEnds_43 : decode cX12_reachEnds 43 = .ok (.iload_n 3, 1) := by decide +kernel
theorem dX12_reachEnds_44 : decode cX12_reachEnds 44 = .ok (.iload 6, 2) := by decide +kernel
theorem dX12_reachEnds_46 : decode cX12_reachEnds 46 = .ok (.imul, 1) := by decide +kernel
theorem dX12_reachEnds_47 : decode cX12_reachEnds 47 = .ok (.iload 7, 2) := by decide +kernel
theorem dX12_reachEnds_49 : decode cX12_reachEnds 49 = .ok (.iadd, 1) := by decide +kernel
theorem dX12_reachEnds_50 : decode cX12_reachEnds 50 = .ok (.istore 8, 2) := by decide +kernel
theorem dX12_reachEnds_52 : decode cX12_reachEnds 52 = .ok (.aload_n 0, 1) := by decide +kernel
theorem dX12_reachEnds_53 : decode cX12_reachEnds 53 = .ok (.getfield 50, 3) := by decide +kernel
theorem dX12_reachEnds_56 : decode cX12_reachEnds 56 = .ok (.iload 8, 2) := by decide +kernel
theorem dX12_reachEnds_58 : decode cX12_reachEnds 58 = .ok (.iload 6, 2) := by decide +kernel
theorem dX12_reachEnds_60 : decode cX12_reachEnds 60 = .ok (.ifCond .ne 7, 3) := by decide +kernel
theorem dX12_reachEnds_63 : decode cX12_reachEnds 63 = .ok (.iconst 0, 1) := by decide +kernel
theorem dX12_reachEnds_64 : decode cX12_reachEnds 64 = .ok (.goto 5, 3) := by decide +kernel
theorem dX12_reachEnds_67 : decode cX12_reachEnds 67 = .ok (.ldc 225, 2) := by decide +kernel
theorem dX12_reachEnds_69 : decode cX12_reachEnds 69 = .ok (.iastore, 1) := by decide +kernel
theorem dX12_reachEnds_70 : decode cX12_reachEnds 70 = .ok (.aload_n 0, 1) := by decide +kernel
theorem dX12_reachEnds_71 : decode cX12_reachEnds 71 = .ok (.getfield 53, 3) := by decide +kernel
theorem dX12_reachEnds_74 : decode cX12_reachEnds 74 = .ok (.iload 8, 2) := by decide +kernel
theorem dX12_reachEnds_76 : decode cX12_reachEnds 76 = .ok (.iload 6, 2) := by decide +kernel
theorem dX12_reachEnds_78 : decode cX12_reachEnds 78 = .ok (.ifCond .ne 8, 3) := by decide +kernel
theorem dX12_reachEnds_81 : decode cX12_reachEnds 81 = .ok (.iload 7, 2) := by decide +kernel
theorem dX12_reachEnds_83 : decode cX12_reachEnds 83 = .ok (.goto 4, 3) := by decide +kernel
theorem dX12_reachEnds_86 : decode cX12_reachEnds 86 = .ok (.iconst (-1), 1) := by decide +kernel
theorem dX12_reachEnds_87 : decode cX12_reachEnds 87 = .ok (.iastore, 1) := by decide +kernel
theorem dX12_reachEnds_88 : decode cX12_reachEnds 88 = .ok (.iload 6, 2) := by decide +kernel
theorem dX12_reachEnds_90 : decode cX12_reachEnds 90 = .ok (.ifCond .le 47, 3) := by decide +kernel
theorem dX12_reachEnds_93 : decode cX12_reachEnds 93 = .ok (.aload_n 0, 1) := by decide +kernel
theorem dX12_reachEnds_94 : decode cX12_reachEnds 94 = .ok (.iload 8, 2) := by decide +kernel
theorem dX12_reachEnds_96 : decode cX12_reachEnds 96 = .ok (.aload_n 0, 1) := by decide +kernel
theorem dX12_reachEnds_97 : decode cX12_reachEnds 97 = .ok (.getfield 50, 3) := by decide +kernel
theorem dX12_reachEnds_100 : decode cX12_reachEnds 100 = .ok (.iload 8, 2) := by decide +kernel
theorem dX12_reachEnds_102 : decode cX12_reachEnds 102 = .ok (.iload_n 3, 1) := by decide +kernel
theorem dX12_reachEnds_103 : decode cX12_reachEnds 103 = .ok (.isub, 1) := by decide +kernel
theorem dX12_reachEnds_104 : decode cX12_reachEnds 104 = .ok (.iaload, 1) := by decide +kernel
theorem dX12_reachEnds_105 : decode cX12_reachEnds 105 = .ok (.aload_n 0, 1) := by decide +kernel
theorem dX12_reachEnds_106 : decode cX12_reachEnds 106 = .ok (.getfield 21, 3) := by decide +kernel
theorem dX12_reachEnds_109 : decode cX12_reachEnds 109 = .ok (.iconst 2, 1) := by decide +kernel
theorem dX12_reachEnds_110 : decode cX12_reachEnds 110 = .ok (.iaload, 1) := by decide +kernel
theorem dX12_reachEnds_111 : decode cX12_reachEnds 111 = .ok (.aload_n 0, 1) := by decide +kernel
theorem dX12_reachEnds_112 : decode cX12_reachEnds 112 = .ok (.getfield 15, 3) := by decide +kernel
theorem dX12_reachEnds_115 : decode cX12_reachEnds 115 = .ok (.iload 4, 2) := by decide +kernel
theorem dX12_reachEnds_117 : decode cX12_reachEnds 117 = .ok (.iload 6, 2) := by decide +kernel
theorem dX12_reachEnds_119 : decode cX12_reachEnds 119 = .ok (.iadd, 1) := by decide +kernel
theorem dX12_reachEnds_120 : decode cX12_reachEnds 120 = .ok (.iconst 1, 1) := by decide +kernel
theorem dX12_reachEnds_121 : decode cX12_reachEnds 121 = .ok (.isub, 1) := by decide +kernel
theorem dX12_reachEnds_122 : decode cX12_reachEnds 122 = .ok (.iaload, 1) := by decide +kernel
theorem dX12_reachEnds_123 : decode cX12_reachEnds 123 = .ok (.imul, 1) := by decide +kernel
theorem dX12_reachEnds_124 : decode cX12_reachEnds 124 = .ok (.iadd, 1) := by decide +kernel
theorem dX12_reachEnds_125 : decode cX12_reachEnds 125 = .ok (.aload_n 0, 1) := by decide +kernel
theorem dX12_reachEnds_126 : decode cX12_reachEnds 126 = .ok (.getfield 53, 3) := by decide +kernel
theorem dX12_reachEnds_129 : decode cX12_reachEnds 129 = .ok (.iload 8, 2) := by decide +kernel
theorem dX12_reachEnds_131 : decode cX12_reachEnds 131 = .ok (.iload_n 3, 1) := by decide +kernel
theorem dX12_reachEnds_132 : decode cX12_reachEnds 132 = .ok (.isub, 1) := by decide +kernel
theorem dX12_reachEnds_133 : decode cX12_reachEnds 133 = .ok (.iaload, 1) := by decide +kernel
theorem dX12_reachEnds_134 : decode cX12_reachEnds 134 = .ok (.invokevirtual 238, 3) := by decide +kernel
theorem dX12_reachEnds_137 : decode cX12_reachEnds 137 = .ok (.iload 7, 2) := by decide +kernel
theorem dX12_reachEnds_139 : decode cX12_reachEnds 139 = .ok (.ifCond .le 47, 3) := by decide +kernel
theorem dX12_reachEnds_142 : decode cX12_reachEnds 142 = .ok (.aload_n 0, 1) := by decide +kernel
theorem dX12_reachEnds_143 : decode cX12_reachEnds 143 = .ok (.iload 8, 2) := by decide +kernel
theorem dX12_reachEnds_145 : decode cX12_reachEnds 145 = .ok (.aload_n 0, 1) := by decide +kernel
theorem dX12_reachEnds_146 : decode cX12_reachEnds 146 = .ok (.getfield 50, 3) := by decide +kernel
theorem dX12_reachEnds_149 : decode cX12_reachEnds 149 = .ok (.iload 8, 2) := by decide +kernel
theorem dX12_reachEnds_151 : decode cX12_reachEnds 151 = .ok (.iconst 1, 1) := by decide +kernel
theorem dX12_reachEnds_152 : decode cX12_reachEnds 152 = .ok (.isub, 1) := by decide +kernel
theorem dX12_reachEnds_153 : decode cX12_reachEnds 153 = .ok (.iaload, 1) := by decide +kernel
theorem dX12_reachEnds_154 : decode cX12_reachEnds 154 = .ok (.aload_n 0, 1) := by decide +kernel
theorem dX12_reachEnds_155 : decode cX12_reachEnds 155 = .ok (.getfield 21, 3) := by decide +kernel
theorem dX12_reachEnds_158 : decode cX12_reachEnds 158 = .ok (.iconst 3, 1) := by decide +kernel
theorem dX12_reachEnds_159 : decode cX12_reachEnds 159 = .ok (.iaload, 1) := by decide +kernel
theorem dX12_reachEnds_160 : decode cX12_reachEnds 160 = .ok (.aload_n 0, 1) := by decide +kernel
theorem dX12_reachEnds_161 : decode cX12_reachEnds 161 = .ok (.getfield 15, 3) := by decide +kernel
theorem dX12_reachEnds_164 : decode cX12_reachEnds 164 = .ok (.iload 5, 2) := by decide +kernel
theorem dX12_reachEnds_166 : decode cX12_reachEnds 166 = .ok (.iload 7, 2) := by decide +kernel
theorem dX12_reachEnds_168 : decode cX12_reachEnds 168 = .ok (.iadd, 1) := by decide +kernel
theorem dX12_reachEnds_169 : decode cX12_reachEnds 169 = .ok (.iconst 1, 1) := by decide +kernel
theorem dX12_reachEnds_170 : decode cX12_reachEnds 170 = .ok (.isub, 1) := by decide +kernel
theorem dX12_reachEnds_171 : decode cX12_reachEnds 171 = .ok (.iaload, 1) := by decide +kernel
theorem dX12_reachEnds_172 : decode cX12_reachEnds 172 = .ok (.imul, 1) := by decide +kernel
theorem dX12_reachEnds_173 : decode cX12_reachEnds 173 = .ok (.iadd, 1) := by decide +kernel
theorem dX12_reachEnds_174 : decode cX12_reachEnds 174 = .ok (.aload_n 0, 1) := by decide +kernel
theorem dX12_reachEnds_175 : decode cX12_reachEnds 175 = .ok (.getfield 53, 3) := by decide +kernel
theorem dX12_reachEnds_178 : decode cX12_reachEnds 178 = .ok (.iload 8, 2) := by decide +kernel
theorem dX12_reachEnds_180 : decode cX12_reachEnds 180 = .ok (.iconst 1, 1) := by decide +kernel
theorem dX12_reachEnds_181 : decode cX12_reachEnds 181 = .ok (.isub, 1) := by decide +kernel
theorem dX12_reachEnds_182 : decode cX12_reachEnds 182 = .ok (.iaload, 1) := by decide +kernel
theorem dX12_reachEnds_183 : decode cX12_reachEnds 183 = .ok (.invokevirtual 238, 3) := by decide +kernel
theorem dX12_reachEnds_186 : decode cX12_reachEnds 186 = .ok (.iconst 0, 1) := by decide +kernel
theorem dX12_reachEnds_187 : decode cX12_reachEnds 187 = .ok (.istore 9, 2) := by decide +kernel
theorem dX12_reachEnds_189 : decode cX12_reachEnds 189 = .ok (.iconst 0, 1) := by decide +kernel
theorem dX12_reachEnds_190 : decode cX12_reachEnds 190 = .ok (.istore 10, 2) := by decide +kernel
theorem dX12_reachEnds_192 : decode cX12_reachEnds 192 = .ok (.iconst 1, 1) := by decide +kernel
theorem dX12_reachEnds_193 : decode cX12_reachEnds 193 = .ok (.istore 11, 2) := by decide +kernel
theorem dX12_reachEnds_195 : decode cX12_reachEnds 195 = .ok (.iload 11, 2) := by decide +kernel
theorem dX12_reachEnds_197 : decode cX12_reachEnds 197 = .ok (.iconst 4, 1) := by decide +kernel
theorem dX12_reachEnds_198 : decode cX12_reachEnds 198 = .ok (.if_icmp .gt 122, 3) := by decide +kernel
theorem dX12_reachEnds_201 : decode cX12_reachEnds 201 = .ok (.iload 6, 2) := by decide +kernel
theorem dX12_reachEnds_203 : decode cX12_reachEnds 203 = .ok (.ifCond .le 117, 3) := by decide +kernel
theorem dX12_reachEnds_206 : decode cX12_reachEnds 206 = .ok (.iload 11, 2) := by decide +kernel
theorem dX12_reachEnds_208 : decode cX12_reachEnds 208 = .ok (.iload 7, 2) := by decide +kernel
theorem dX12_reachEnds_210 : decode cX12_reachEnds 210 = .ok (.if_icmp .gt 110, 3) := by decide +kernel
theorem dX12_reachEnds_213 : decode cX12_reachEnds 213 = .ok (.iload 9, 2) := by decide +kernel
theorem dX12_reachEnds_215 : decode cX12_reachEnds 215 = .ok (.aload_n 0, 1) := by decide +kernel
theorem dX12_reachEnds_216 : decode cX12_reachEnds 216 = .ok (.iload 4, 2) := by decide +kernel
theorem dX12_reachEnds_218 : decode cX12_reachEnds 218 = .ok (.iload 6, 2) := by decide +kernel
theorem dX12_reachEnds_220 : decode cX12_reachEnds 220 = .ok (.iadd, 1) := by decide +kernel
theorem dX12_reachEnds_221 : decode cX12_reachEnds 221 = .ok (.iconst 1, 1) := by decide +kernel
theorem dX12_reachEnds_222 : decode cX12_reachEnds 222 = .ok (.isub, 1) := by decide +kernel
theorem dX12_reachEnds_223 : decode cX12_reachEnds 223 = .ok (.iload 5, 2) := by decide +kernel
theorem dX12_reachEnds_225 : decode cX12_reachEnds 225 = .ok (.iload 7, 2) := by decide +kernel
theorem dX12_reachEnds_227 : decode cX12_reachEnds 227 = .ok (.iadd, 1) := by decide +kernel
theorem dX12_reachEnds_228 : decode cX12_reachEnds 228 = .ok (.iload 11, 2) := by decide +kernel
theorem dX12_reachEnds_230 : decode cX12_reachEnds 230 = .ok (.isub, 1) := by decide +kernel
theorem dX12_reachEnds_231 : decode cX12_reachEnds 231 = .ok (.iload_n 2, 1) := by decide +kernel
theorem dX12_reachEnds_232 : decode cX12_reachEnds 232 = .ok (.invokevirtual 229, 3) := by decide +kernel
theorem dX12_reachEnds_235 : decode cX12_reachEnds 235 = .ok (.iadd, 1) := by decide +kernel
theorem dX12_reachEnds_236 : decode cX12_reachEnds 236 = .ok (.istore 9, 2) := by decide +kernel
theorem dX12_reachEnds_238 : decode cX12_reachEnds 238 = .ok (.iload 10, 2) := by decide +kernel
theorem dX12_reachEnds_240 : decode cX12_reachEnds 240 = .ok (.aload_n 0, 1) := by decide +kernel
theorem dX12_reachEnds_241 : decode cX12_reachEnds 241 = .ok (.getfield 15, 3) := by decide +kernel
theorem dX12_reachEnds_244 : decode cX12_reachEnds 244 = .ok (.iload 5, 2) := by decide +kernel
theorem dX12_reachEnds_246 : decode cX12_reachEnds 246 = .ok (.iload 7, 2) := by decide +kernel
theorem dX12_reachEnds_248 : decode cX12_reachEnds 248 = .ok (.iadd, 1) := by decide +kernel
theorem dX12_reachEnds_249 : decode cX12_reachEnds 249 = .ok (.iload 11, 2) := by decide +kernel
theorem dX12_reachEnds_251 : decode cX12_reachEnds 251 = .ok (.isub, 1) := by decide +kernel
theorem dX12_reachEnds_252 : decode cX12_reachEnds 252 = .ok (.iaload, 1) := by decide +kernel
theorem dX12_reachEnds_253 : decode cX12_reachEnds 253 = .ok (.iadd, 1) := by decide +kernel
theorem dX12_reachEnds_254 : decode cX12_reachEnds 254 = .ok (.istore 10, 2) := by decide +kernel
theorem dX12_reachEnds_256 : decode cX12_reachEnds 256 = .ok (.iload 8, 2) := by decide +kernel
theorem dX12_reachEnds_258 : decode cX12_reachEnds 258 = .ok (.iload_n 3, 1) := by decide +kernel
theorem dX12_reachEnds_259 : decode cX12_reachEnds 259 = .ok (.isub, 1) := by decide +kernel
theorem dX12_reachEnds_260 : decode cX12_reachEnds 260 = .ok (.iload 11, 2) := by decide +kernel
theorem dX12_reachEnds_262 : decode cX12_reachEnds 262 = .ok (.isub, 1) := by decide +kernel
theorem dX12_reachEnds_263 : decode cX12_reachEnds 263 = .ok (.istore 12, 2) := by decide +kernel
theorem dX12_reachEnds_265 : decode cX12_reachEnds 265 = .ok (.aload_n 0, 1) := by decide +kernel
theorem dX12_reachEnds_266 : decode cX12_reachEnds 266 = .ok (.iload 8, 2) := by decide +kernel
theorem dX12_reachEnds_268 : decode cX12_reachEnds 268 = .ok (.aload_n 0, 1) := by decide +kernel
theorem dX12_reachEnds_269 : decode cX12_reachEnds 269 = .ok (.getfield 50, 3) := by decide +kernel
theorem dX12_reachEnds_272 : decode cX12_reachEnds 272 = .ok (.iload 12, 2) := by decide +kernel
theorem dX12_reachEnds_274 : decode cX12_reachEnds 274 = .ok (.iaload, 1) := by decide +kernel
theorem dX12_reachEnds_275 : decode cX12_reachEnds 275 = .ok (.aload_n 0, 1) := by decide +kernel
theorem dX12_reachEnds_276 : decode cX12_reachEnds 276 = .ok (.getfield 21, 3) := by decide +kernel
theorem dX12_reachEnds_279 : decode cX12_reachEnds 279 = .ok (.iconst 1, 1) := by decide +kernel
theorem dX12_reachEnds_280 : decode cX12_reachEnds 280 = .ok (.iaload, 1) := by decide +kernel
theorem dX12_reachEnds_281 : decode cX12_reachEnds 281 = .ok (.aload_n 0, 1) := by decide +kernel
theorem dX12_reachEnds_282 : decode cX12_reachEnds 282 = .ok (.getfield 15, 3) := by decide +kernel
theorem dX12_reachEnds_285 : decode cX12_reachEnds 285 = .ok (.iload 4, 2) := by decide +kernel
theorem dX12_reachEnds_287 : decode cX12_reachEnds 287 = .ok (.iload 6, 2) := by decide +kernel
theorem dX12_reachEnds_289 : decode cX12_reachEnds 289 = .ok (.iadd, 1) := by decide +kernel
theorem dX12_reachEnds_290 : decode cX12_reachEnds 290 = .ok (.iconst 1, 1) := by decide +kernel
theorem dX12_reachEnds_291 : decode cX12_reachEnds 291 = .ok (.isub, 1) := by decide +kernel
theorem dX12_reachEnds_292 : decode cX12_reachEnds 292 = .ok (.iaload, 1) := by decide +kernel
theorem dX12_reachEnds_293 : decode cX12_reachEnds 293 = .ok (.iload 10, 2) := by decide +kernel
theorem dX12_reachEnds_295 : decode cX12_reachEnds 295 = .ok (.isub, 1) := by decide +kernel
theorem dX12_reachEnds_296 : decode cX12_reachEnds 296 = .ok (.invokestatic 220, 3) := by decide +kernel
theorem dX12_reachEnds_299 : decode cX12_reachEnds 299 = .ok (.imul, 1) := by decide +kernel
theorem dX12_reachEnds_300 : decode cX12_reachEnds 300 = .ok (.iadd, 1) := by decide +kernel
theorem dX12_reachEnds_301 : decode cX12_reachEnds 301 = .ok (.iload 9, 2) := by decide +kernel
theorem dX12_reachEnds_303 : decode cX12_reachEnds 303 = .ok (.iadd, 1) := by decide +kernel
theorem dX12_reachEnds_304 : decode cX12_reachEnds 304 = .ok (.aload_n 0, 1) := by decide +kernel
theorem dX12_reachEnds_305 : decode cX12_reachEnds 305 = .ok (.getfield 53, 3) := by decide +kernel
theorem dX12_reachEnds_308 : decode cX12_reachEnds 308 = .ok (.iload 12, 2) := by decide +kernel
theorem dX12_reachEnds_310 : decode cX12_reachEnds 310 = .ok (.iaload, 1) := by decide +kernel
theorem dX12_reachEnds_311 : decode cX12_reachEnds 311 = .ok (.invokevirtual 238, 3) := by decide +kernel
theorem dX12_reachEnds_314 : decode cX12_reachEnds 314 = .ok (.iinc 11 1, 3) := by decide +kernel
theorem dX12_reachEnds_317 : decode cX12_reachEnds 317 = .ok (.goto (-122), 3) := by decide +kernel
theorem dX12_reachEnds_320 : decode cX12_reachEnds 320 = .ok (.iconst 0, 1) := by decide +kernel
theorem dX12_reachEnds_321 : decode cX12_reachEnds 321 = .ok (.istore 9, 2) := by decide +kernel
theorem dX12_reachEnds_323 : decode cX12_reachEnds 323 = .ok (.iconst 0, 1) := by decide +kernel
theorem dX12_reachEnds_324 : decode cX12_reachEnds 324 = .ok (.istore 10, 2) := by decide +kernel
theorem dX12_reachEnds_326 : decode cX12_reachEnds 326 = .ok (.iconst 1, 1) := by decide +kernel
theorem dX12_reachEnds_327 : decode cX12_reachEnds 327 = .ok (.istore 11, 2) := by decide +kernel
theorem dX12_reachEnds_329 : decode cX12_reachEnds 329 = .ok (.iload 11, 2) := by decide +kernel
theorem dX12_reachEnds_331 : decode cX12_reachEnds 331 = .ok (.iconst 4, 1) := by decide +kernel
theorem dX12_reachEnds_332 : decode cX12_reachEnds 332 = .ok (.if_icmp .gt 124, 3) := by decide +kernel
theorem dX12_reachEnds_335 : decode cX12_reachEnds 335 = .ok (.iload 7, 2) := by decide +kernel
theorem dX12_reachEnds_337 : decode cX12_reachEnds 337 = .ok (.ifCond .le 119, 3) := by decide +kernel
theorem dX12_reachEnds_340 : decode cX12_reachEnds 340 = .ok (.iload 11, 2) := by decide +kernel
theorem dX12_reachEnds_342 : decode cX12_reachEnds 342 = .ok (.iload 6, 2) := by decide +kernel
theorem dX12_reachEnds_344 : decode cX12_reachEnds 344 = .ok (.if_icmp .gt 112, 3) := by decide +kernel
theorem dX12_reachEnds_347 : decode cX12_reachEnds 347 = .ok (.iload 9, 2) := by decide +kernel
theorem dX12_reachEnds_349 : decode cX12_reachEnds 349 = .ok (.aload_n 0, 1) := by decide +kernel
theorem dX12_reachEnds_350 : decode cX12_reachEnds 350 = .ok (.iload 4, 2) := by decide +kernel
theorem dX12_reachEnds_352 : decode cX12_reachEnds 352 = .ok (.iload 6, 2) := by decide +kernel
theorem dX12_reachEnds_354 : decode cX12_reachEnds 354 = .ok (.iadd, 1) := by decide +kernel
theorem dX12_reachEnds_355 : decode cX12_reachEnds 355 = .ok (.iload 11, 2) := by decide +kernel
theorem dX12_reachEnds_357 : decode cX12_reachEnds 357 = .ok (.isub, 1) := by decide +kernel
theorem dX12_reachEnds_358 : decode cX12_reachEnds 358 = .ok (.iload 5, 2) := by decide +kernel
theorem dX12_reachEnds_360 : decode cX12_reachEnds 360 = .ok (.iload 7, 2) := by decide +kernel
theorem dX12_reachEnds_362 : decode cX12_reachEnds 362 = .ok (.iadd, 1) := by decide +kernel
theorem dX12_reachEnds_363 : decode cX12_reachEnds 363 = .ok (.iconst 1, 1) := by decide +kernel
theorem dX12_reachEnds_364 : decode cX12_reachEnds 364 = .ok (.isub, 1) := by decide +kernel
theorem dX12_reachEnds_365 : decode cX12_reachEnds 365 = .ok (.iload_n 2, 1) := by decide +kernel
theorem dX12_reachEnds_366 : decode cX12_reachEnds 366 = .ok (.invokevirtual 229, 3) := by decide +kernel
theorem dX12_reachEnds_369 : decode cX12_reachEnds 369 = .ok (.iadd, 1) := by decide +kernel
theorem dX12_reachEnds_370 : decode cX12_reachEnds 370 = .ok (.istore 9, 2) := by decide +kernel
theorem dX12_reachEnds_372 : decode cX12_reachEnds 372 = .ok (.iload 10, 2) := by decide +kernel
theorem dX12_reachEnds_374 : decode cX12_reachEnds 374 = .ok (.aload_n 0, 1) := by decide +kernel
theorem dX12_reachEnds_375 : decode cX12_reachEnds 375 = .ok (.getfield 15, 3) := by decide +kernel
theorem dX12_reachEnds_378 : decode cX12_reachEnds 378 = .ok (.iload 4, 2) := by decide +kernel
theorem dX12_reachEnds_380 : decode cX12_reachEnds 380 = .ok (.iload 6, 2) := by decide +kernel
theorem dX12_reachEnds_382 : decode cX12_reachEnds 382 = .ok (.iadd, 1) := by decide +kernel
theorem dX12_reachEnds_383 : decode cX12_reachEnds 383 = .ok (.iload 11, 2) := by decide +kernel
theorem dX12_reachEnds_385 : decode cX12_reachEnds 385 = .ok (.isub, 1) := by decide +kernel
theorem dX12_reachEnds_386 : decode cX12_reachEnds 386 = .ok (.iaload, 1) := by decide +kernel
theorem dX12_reachEnds_387 : decode cX12_reachEnds 387 = .ok (.iadd, 1) := by decide +kernel
theorem dX12_reachEnds_388 : decode cX12_reachEnds 388 = .ok (.istore 10, 2) := by decide +kernel
theorem dX12_reachEnds_390 : decode cX12_reachEnds 390 = .ok (.iload 8, 2) := by decide +kernel
theorem dX12_reachEnds_392 : decode cX12_reachEnds 392 = .ok (.iload_n 3, 1) := by decide +kernel
theorem dX12_reachEnds_393 : decode cX12_reachEnds 393 = .ok (.iload 11, 2) := by decide +kernel
theorem dX12_reachEnds_395 : decode cX12_reachEnds 395 = .ok (.imul, 1) := by decide +kernel
theorem dX12_reachEnds_396 : decode cX12_reachEnds 396 = .ok (.isub, 1) := by decide +kernel
theorem dX12_reachEnds_397 : decode cX12_reachEnds 397 = .ok (.iconst 1, 1) := by decide +kernel
theorem dX12_reachEnds_398 : decode cX12_reachEnds 398 = .ok (.isub, 1) := by decide +kernel
theorem dX12_reachEnds_399 : decode cX12_reachEnds 399 = .ok (.istore 12, 2) := by decide +kernel
theorem dX12_reachEnds_401 : decode cX12_reachEnds 401 = .ok (.aload_n 0, 1) := by decide +kernel
theorem dX12_reachEnds_402 : decode cX12_reachEnds 402 = .ok (.iload 8, 2) := by decide +kernel
theorem dX12_reachEnds_404 : decode cX12_reachEnds 404 = .ok (.aload_n 0, 1) := by decide +kernel
theorem dX12_reachEnds_405 : decode cX12_reachEnds 405 = .ok (.getfield 50, 3) := by decide +kernel
theorem dX12_reachEnds_408 : decode cX12_reachEnds 408 = .ok (.iload 12, 2) := by decide +kernel
theorem dX12_reachEnds_410 : decode cX12_reachEnds 410 = .ok (.iaload, 1) := by decide +kernel
theorem dX12_reachEnds_411 : decode cX12_reachEnds 411 = .ok (.aload_n 0, 1) := by decide +kernel
theorem dX12_reachEnds_412 : decode cX12_reachEnds 412 = .ok (.getfield 21, 3) := by decide +kernel
theorem dX12_reachEnds_415 : decode cX12_reachEnds 415 = .ok (.iconst 1, 1) := by decide +kernel
theorem dX12_reachEnds_416 : decode cX12_reachEnds 416 = .ok (.iaload, 1) := by decide +kernel
theorem dX12_reachEnds_417 : decode cX12_reachEnds 417 = .ok (.iload 10, 2) := by decide +kernel
theorem dX12_reachEnds_419 : decode cX12_reachEnds 419 = .ok (.aload_n 0, 1) := by decide +kernel
theorem dX12_reachEnds_420 : decode cX12_reachEnds 420 = .ok (.getfield 15, 3) := by decide +kernel
theorem dX12_reachEnds_423 : decode cX12_reachEnds 423 = .ok (.iload 5, 2) := by decide +kernel
theorem dX12_reachEnds_425 : decode cX12_reachEnds 425 = .ok (.iload 7, 2) := by decide +kernel
theorem dX12_reachEnds_427 : decode cX12_reachEnds 427 = .ok (.iadd, 1) := by decide +kernel
theorem dX12_reachEnds_428 : decode cX12_reachEnds 428 = .ok (.iconst 1, 1) := by decide +kernel
theorem dX12_reachEnds_429 : decode cX12_reachEnds 429 = .ok (.isub, 1) := by decide +kernel
theorem dX12_reachEnds_430 : decode cX12_reachEnds 430 = .ok (.iaload, 1) := by decide +kernel
theorem dX12_reachEnds_431 : decode cX12_reachEnds 431 = .ok (.isub, 1) := by decide +kernel
theorem dX12_reachEnds_432 : decode cX12_reachEnds 432 = .ok (.invokestatic 220, 3) := by decide +kernel
theorem dX12_reachEnds_435 : decode cX12_reachEnds 435 = .ok (.imul, 1) := by decide +kernel
theorem dX12_reachEnds_436 : decode cX12_reachEnds 436 = .ok (.iadd, 1) := by decide +kernel
theorem dX12_reachEnds_437 : decode cX12_reachEnds 437 = .ok (.iload 9, 2) := by decide +kernel
theorem dX12_reachEnds_439 : decode cX12_reachEnds 439 = .ok (.iadd, 1) := by decide +kernel
theorem dX12_reachEnds_440 : decode cX12_reachEnds 440 = .ok (.aload_n 0, 1) := by decide +kernel
theorem dX12_reachEnds_441 : decode cX12_reachEnds 441 = .ok (.getfield 53, 3) := by decide +kernel
theorem dX12_reachEnds_444 : decode cX12_reachEnds 444 = .ok (.iload 12, 2) := by decide +kernel
theorem dX12_reachEnds_446 : decode cX12_reachEnds 446 = .ok (.iaload, 1) := by decide +kernel
theorem dX12_reachEnds_447 : decode cX12_reachEnds 447 = .ok (.invokevirtual 238, 3) := by decide +kernel
theorem dX12_reachEnds_450 : decode cX12_reachEnds 450 = .ok (.iinc 11 1, 3) := by decide +kernel
theorem dX12_reachEnds_453 : decode cX12_reachEnds 453 = .ok (.goto (-124), 3) := by decide +kernel
theorem dX12_reachEnds_456 : decode cX12_reachEnds 456 = .ok (.iinc 7 1, 3) := by decide +kernel
theorem dX12_reachEnds_459 : decode cX12_reachEnds 459 = .ok (.goto (-427), 3) := by decide +kernel
theorem dX12_reachEnds_462 : decode cX12_reachEnds 462 = .ok (.iinc 6 1, 3) := by decide +kernel
theorem dX12_reachEnds_465 : decode cX12_reachEnds 465 = .ok (.goto (-448), 3) := by decide +kernel
theorem dX12_reachEnds_468 : decode cX12_reachEnds 468 = .ok (.return_, 1) := by decide +kernel
set_option maxRecDepth 20000 in
theorem ggX12_near_X12_reachEnds : GoodIn wsX12_near wsX12_reachEnds := goodIn_r _ [15, 3, 7, 6, 9, 16, 17, 18, 19, 20, 21, 22, 23, 24, 14, 25, 26, 27, 28, 29, 30, 40, 41, 42, 43, 44, 45, 46, 47, 48, 49, 50, 51, 52, 53, 54, 55, 56, 57, 58, 59, 60, 61, 62, 63, 64, 65, 66, 67, 68, 69, 70, 71, 72, 73, 74, 75, 76, 77, 78, 79, 80] (by decide +kernel) (by decide +kernel)
set_option maxRecDepth 20000 in
theorem gX12_near_X12_reachEnds : GoodIn wsX12_near (wsV RX12 242 RX12 yX12_reachEnds wsX12_reachEnds) := goodIn_app (goodIn_of _ (by decide +kernel)) ggX12_near_X12_reachEnds
set_option maxRecDepth 20000 in
theorem ggX12_near_X12_find : GoodIn wsX12_near wsX12_find := goodIn_r _ [34, 2, 35, 36, 37, 38, 39, 40, 41, 42, 43, 44, 45, 46, 47, 48, 49, 50, 51, 52, 53, 54, 55, 56, 57, 58, 59, 60, 61, 62, 63, 64, 65, 66, 67, 68, 69, 70, 71, 72, 73, 74, 75, 76, 77, 78, 79, 80] (by decide +kernel) (by decide +kernel)
set_option maxRecDepth 20000 in
theorem gX12_near_X12_find : GoodIn wsX12_near (wsV RX12 216 RX12 yX12_find wsX12_find) := goodIn_app (goodIn_of _ (by decide +kernel)) ggX12_near_X12_find
theorem dX12_near_0 : decode cX12_near 0 = .ok (.aload_n 0, 1) := by decide +kernel
theorem dX12_near_1 : decode cX12_near 1 = .ok (.iconst 0, 1) := by decide +kernel
theorem dX12_near_2 : decode cX12_near 2 = .ok (.putfield 87, 3) := by decide +kernel
theorem dX12_near_5 : decode cX12_near 5 = .ok (.iload_n 1, 1) := by decide +kernel
theorem dX12_near_6 : decode cX12_near 6 = .ok (.ifCond .lt 13, 3) := by decide +kernel
theorem dX12_near_9 : decode cX12_near 9 = .ok (.iload_n 2, 1) := by decide +kernel
theorem dX12_near_10 : decode cX12_near 10 = .ok (.ifCond .lt 9, 3) := by decide +kernel
theorem dX12_near_13 : decode cX12_near 13 = .ok (.iload_n 2, 1) := by decide +kernel
theorem dX12_near_14 : decode cX12_near 14 = .ok (.bipush 24, 2) := by decide +kernel
theorem dX12_near_16 : decode cX12_near 16 = .ok (.if_icmp .le 6, 3) := by decide +kernel
theorem dX12_near_19 : decode cX12_near 19 = .ok (.bipush (-2), 2) := by decide +kernel
theorem dX12_near_21 : decode cX12_near 21 = .ok (.ireturn, 1) := by decide +kernel
theorem dX12_near_22 : decode cX12_near 22 = .ok (.aload_n 0, 1) := by decide +kernel
theorem dX12_near_23 : decode cX12_near 23 = .ok (.iconst 0, 1) := by decide +kernel
theorem dX12_near_24 : decode cX12_near 24 = .ok (.putfield 204, 3) := by decide +kernel
theorem dX12_near_27 : decode cX12_near 27 = .ok (.bipush 25, 2) := by decide +kernel
theorem dX12_near_29 : decode cX12_near 29 = .ok (.aload_n 0, 1) := by decide +kernel
theorem dX12_near_30 : decode cX12_near 30 = .ok (.getfield 18, 3) := by decide +kernel
theorem dX12_near_33 : decode cX12_near 33 = .ok (.bipush 8, 2) := by decide +kernel
theorem dX12_near_35 : decode cX12_near 35 = .ok (.iaload, 1) := by decide +kernel
theorem dX12_near_36 : decode cX12_near 36 = .ok (.imul, 1) := by decide +kernel
theorem dX12_near_37 : decode cX12_near 37 = .ok (.istore_n 3, 1) := by decide +kernel
theorem dX12_near_38 : decode cX12_near 38 = .ok (.iconst 0, 1) := by decide +kernel
theorem dX12_near_39 : decode cX12_near 39 = .ok (.istore 4, 2) := by decide +kernel
theorem dX12_near_41 : decode cX12_near 41 = .ok (.iload 4, 2) := by decide +kernel
theorem dX12_near_43 : decode cX12_near 43 = .ok (.aload_n 0, 1) := by decide +kernel
theorem dX12_near_44 : decode cX12_near 44 = .ok (.getfield 90, 3) := by decide +kernel
theorem dX12_near_47 : decode cX12_near 47 = .ok (.if_icmp .ge 237, 3) := by decide +kernel
theorem dX12_near_50 : decode cX12_near 50 = .ok (.iconst 0, 1) := by decide +kernel
theorem dX12_near_51 : decode cX12_near 51 = .ok (.istore 5, 2) := by decide +kernel
theorem dX12_near_53 : decode cX12_near 53 = .ok (.iload 5, 2) := by decide +kernel
theorem dX12_near_55 : decode cX12_near 55 = .ok (.aload_n 0, 1) := by decide +kernel
theorem dX12_near_56 : decode cX12_near 56 = .ok (.getfield 18, 3) := by decide +kernel
theorem dX12_near_59 : decode cX12_near 59 = .ok (.iload 4, 2) := by decide +kernel
theorem dX12_near_61 : decode cX12_near 61 = .ok (.iaload, 1) := by decide +kernel
theorem dX12_near_62 : decode cX12_near 62 = .ok (.if_icmp .gt 18, 3) := by decide +kernel
theorem dX12_near_65 : decode cX12_near 65 = .ok (.aload_n 0, 1) := by decide +kernel
theorem dX12_near_66 : decode cX12_near 66 = .ok (.getfield 56, 3) := by decide +kernel
theorem dX12_near_69 : decode cX12_near 69 = .ok (.iload 5, 2) := by decide +kernel
theorem dX12_near_71 : decode cX12_near 71 = .ok (.ldc 225, 2) := by decide +kernel
theorem dX12_near_73 : decode cX12_near 73 = .ok (.iastore, 1) := by decide +kernel
theorem dX12_near_74 : decode cX12_near 74 = .ok (.iinc 5 1, 3) := by decide +kernel
theorem dX12_near_77 : decode cX12_near 77 = .ok (.goto (-24), 3) := by decide +kernel
theorem dX12_near_80 : decode cX12_near 80 = .ok (.iconst 0, 1) := by decide +kernel
theorem dX12_near_81 : decode cX12_near 81 = .ok (.istore 5, 2) := by decide +kernel
theorem dX12_near_83 : decode cX12_near 83 = .ok (.iload 5, 2) := by decide +kernel
theorem dX12_near_85 : decode cX12_near 85 = .ok (.iload_n 2, 1) := by decide +kernel
theorem dX12_near_86 : decode cX12_near 86 = .ok (.if_icmp .gt 131, 3) := by decide +kernel
theorem dX12_near_89 : decode cX12_near 89 = .ok (.iload 5, 2) := by decide +kernel
theorem dX12_near_91 : decode cX12_near 91 = .ok (.ineg, 1) := by decide +kernel
theorem dX12_near_92 : decode cX12_near 92 = .ok (.istore 6, 2) := by decide +kernel
theorem dX12_near_94 : decode cX12_near 94 = .ok (.iload 6, 2) := by decide +kernel
theorem dX12_near_96 : decode cX12_near 96 = .ok (.iload 5, 2) := by decide +kernel
theorem dX12_near_98 : decode cX12_near 98 = .ok (.if_icmp .gt 113, 3) := by decide +kernel
theorem dX12_near_101 : decode cX12_near 101 = .ok (.aload_n 0, 1) := by decide +kernel
theorem dX12_near_102 : decode cX12_near 102 = .ok (.iload 4, 2) := by decide +kernel
theorem dX12_near_104 : decode cX12_near 104 = .ok (.iload 6, 2) := by decide +kernel
theorem dX12_near_106 : decode cX12_near 106 = .ok (.invokevirtual 242, 3) := by decide +kernel
theorem dX12_near_109 : decode cX12_near 109 = .ok (.iconst 0, 1) := by decide +kernel
theorem dX12_near_110 : decode cX12_near 110 = .ok (.istore 7, 2) := by decide +kernel
theorem dX12_near_112 : decode cX12_near 112 = .ok (.iload 7, 2) := by decide +kernel
theorem dX12_near_114 : decode cX12_near 114 = .ok (.aload_n 0, 1) := by decide +kernel
theorem dX12_near_115 : decode cX12_near 115 = .ok (.getfield 18, 3) := by decide +kernel
theorem dX12_near_118 : decode cX12_near 118 = .ok (.iload 4, 2) := by decide +kernel
theorem dX12_near_120 : decode cX12_near 120 = .ok (.iaload, 1) := by decide +kernel
theorem dX12_near_121 : decode cX12_near 121 = .ok (.if_icmp .gt 69, 3) := by decide +kernel
theorem dX12_near_124 : decode cX12_near 124 = .ok (.aload_n 0, 1) := by decide +kernel
theorem dX12_near_125 : decode cX12_near 125 = .ok (.getfield 50, 3) := by decide +kernel
theorem dX12_near_128 : decode cX12_near 128 = .ok (.iload_n 3, 1) := by decide +kernel
theorem dX12_near_129 : decode cX12_near 129 = .ok (.iload 7, 2) := by decide +kernel
theorem dX12_near_131 : decode cX12_near 131 = .ok (.iadd, 1) := by decide +kernel
theorem dX12_near_132 : decode cX12_near 132 = .ok (.iaload, 1) := by decide +kernel
theorem dX12_near_133 : decode cX12_near 133 = .ok (.aload_n 0, 1) := by decide +kernel
theorem dX12_near_134 : decode cX12_near 134 = .ok (.getfield 56, 3) := by decide +kernel
theorem dX12_near_137 : decode cX12_near 137 = .ok (.iload 7, 2) := by decide +kernel
theorem dX12_near_139 : decode cX12_near 139 = .ok (.iaload, 1) := by decide +kernel
theorem dX12_near_140 : decode cX12_near 140 = .ok (.if_icmp .ge 44, 3) := by decide +kernel
theorem dX12_near_143 : decode cX12_near 143 = .ok (.aload_n 0, 1) := by decide +kernel
theorem dX12_near_144 : decode cX12_near 144 = .ok (.getfield 56, 3) := by decide +kernel
theorem dX12_near_147 : decode cX12_near 147 = .ok (.iload 7, 2) := by decide +kernel
theorem dX12_near_149 : decode cX12_near 149 = .ok (.aload_n 0, 1) := by decide +kernel
theorem dX12_near_150 : decode cX12_near 150 = .ok (.getfield 50, 3) := by decide +kernel
theorem dX12_near_153 : decode cX12_near 153 = .ok (.iload_n 3, 1) := by decide +kernel
theorem dX12_near_154 : decode cX12_near 154 = .ok (.iload 7, 2) := by decide +kernel
theorem dX12_near_156 : decode cX12_near 156 = .ok (.iadd, 1) := by decide +kernel
theorem dX12_near_157 : decode cX12_near 157 = .ok (.iaload, 1) := by decide +kernel
theorem dX12_near_158 : decode cX12_near 158 = .ok (.iastore, 1) := by decide +kernel
theorem dX12_near_159 : decode cX12_near 159 = .ok (.aload_n 0, 1) := by decide +kernel
theorem dX12_near_160 : decode cX12_near 160 = .ok (.getfield 59, 3) := by decide +kernel
theorem dX12_near_163 : decode cX12_near 163 = .ok (.iload 7, 2) := by decide +kernel
theorem dX12_near_165 : decode cX12_near 165 = .ok (.aload_n 0, 1) := by decide +kernel
theorem dX12_near_166 : decode cX12_near 166 = .ok (.getfield 53, 3) := by decide +kernel
theorem dX12_near_169 : decode cX12_near 169 = .ok (.iload_n 3, 1) := by decide +kernel
theorem dX12_near_170 : decode cX12_near 170 = .ok (.iload 7, 2) := by decide +kernel
theorem dX12_near_172 : decode cX12_near 172 = .ok (.iadd, 1) := by decide +kernel
theorem dX12_near_173 : decode cX12_near 173 = .ok (.iaload, 1) := by decide +kernel
theorem dX12_near_174 : decode cX12_near 174 = .ok (.iastore, 1) := by decide +kernel
theorem dX12_near_175 : decode cX12_near 175 = .ok (.aload_n 0, 1) := by decide +kernel
theorem dX12_near_176 : decode cX12_near 176 = .ok (.getfield 62, 3) := by decide +kernel
theorem dX12_near_179 : decode cX12_near 179 = .ok (.iload 7, 2) := by decide +kernel
theorem dX12_near_181 : decode cX12_near 181 = .ok (.iload 6, 2) := by decide +kernel
theorem dX12_near_183 : decode cX12_near 183 = .ok (.iastore, 1) := by decide +kernel
theorem dX12_near_184 : decode cX12_near 184 = .ok (.iinc 7 1, 3) := by decide +kernel
theorem dX12_near_187 : decode cX12_near 187 = .ok (.goto (-75), 3) := by decide +kernel
theorem dX12_near_190 : decode cX12_near 190 = .ok (.iload 6, 2) := by decide +kernel
theorem dX12_near_192 : decode cX12_near 192 = .ok (.iload 5, 2) := by decide +kernel
theorem dX12_near_194 : decode cX12_near 194 = .ok (.ifCond .ne 7, 3) := by decide +kernel
theorem dX12_near_197 : decode cX12_near 197 = .ok (.iconst 1, 1) := by decide +kernel
theorem dX12_near_198 : decode cX12_near 198 = .ok (.goto 7, 3) := by decide +kernel
theorem dX12_near_201 : decode cX12_near 201 = .ok (.iconst 2, 1) := by decide +kernel
theorem dX12_near_202 : decode cX12_near 202 = .ok (.iload 5, 2) := by decide +kernel
theorem dX12_near_204 : decode cX12_near 204 = .ok (.imul, 1) := by decide +kernel
theorem dX12_near_205 : decode cX12_near 205 = .ok (.iadd, 1) := by decide +kernel
theorem dX12_near_206 : decode cX12_near 206 = .ok (.istore 6, 2) := by decide +kernel
theorem dX12_near_208 : decode cX12_near 208 = .ok (.goto (-114), 3) := by decide +kernel
theorem dX12_near_211 : decode cX12_near 211 = .ok (.iinc 5 1, 3) := by decide +kernel
theorem dX12_near_214 : decode cX12_near 214 = .ok (.goto (-131), 3) := by decide +kernel
theorem dX12_near_217 : decode cX12_near 217 = .ok (.iconst 0, 1) := by decide +kernel
theorem dX12_near_218 : decode cX12_near 218 = .ok (.istore 5, 2) := by decide +kernel
theorem dX12_near_220 : decode cX12_near 220 = .ok (.iload 5, 2) := by decide +kernel
theorem dX12_near_222 : decode cX12_near 222 = .ok (.aload_n 0, 1) := by decide +kernel
theorem dX12_near_223 : decode cX12_near 223 = .ok (.getfield 18, 3) := by decide +kernel
theorem dX12_near_226 : decode cX12_near 226 = .ok (.iload 4, 2) := by decide +kernel
theorem dX12_near_228 : decode cX12_near 228 = .ok (.iaload, 1) := by decide +kernel
theorem dX12_near_229 : decode cX12_near 229 = .ok (.if_icmp .gt 49, 3) := by decide +kernel
theorem dX12_near_232 : decode cX12_near 232 = .ok (.aload_n 0, 1) := by decide +kernel
theorem dX12_near_233 : decode cX12_near 233 = .ok (.getfield 56, 3) := by decide +kernel
theorem dX12_near_236 : decode cX12_near 236 = .ok (.iload 5, 2) := by decide +kernel
theorem dX12_near_238 : decode cX12_near 238 = .ok (.iaload, 1) := by decide +kernel
theorem dX12_near_239 : decode cX12_near 239 = .ok (.iload_n 1, 1) := by decide +kernel
theorem dX12_near_240 : decode cX12_near 240 = .ok (.if_icmp .gt 32, 3) := by decide +kernel
theorem dX12_near_243 : decode cX12_near 243 = .ok (.aload_n 0, 1) := by decide +kernel
theorem dX12_near_244 : decode cX12_near 244 = .ok (.iload 4, 2) := by decide +kernel
theorem dX12_near_246 : decode cX12_near 246 = .ok (.aload_n 0, 1) := by decide +kernel
theorem dX12_near_247 : decode cX12_near 247 = .ok (.getfield 59, 3) := by decide +kernel
theorem dX12_near_250 : decode cX12_near 250 = .ok (.iload 5, 2) := by decide +kernel
theorem dX12_near_252 : decode cX12_near 252 = .ok (.iaload, 1) := by decide +kernel
theorem dX12_near_253 : decode cX12_near 253 = .ok (.iload 5, 2) := by decide +kernel
theorem dX12_near_255 : decode cX12_near 255 = .ok (.aload_n 0, 1) := by decide +kernel
theorem dX12_near_256 : decode cX12_near 256 = .ok (.getfield 56, 3) := by decide +kernel
theorem dX12_near_259 : decode cX12_near 259 = .ok (.iload 5, 2) := by decide +kernel
theorem dX12_near_261 : decode cX12_near 261 = .ok (.iaload, 1) := by decide +kernel
theorem dX12_near_262 : decode cX12_near 262 = .ok (.aload_n 0, 1) := by decide +kernel
theorem dX12_near_263 : decode cX12_near 263 = .ok (.getfield 62, 3) := by decide +kernel
theorem dX12_near_266 : decode cX12_near 266 = .ok (.iload 5, 2) := by decide +kernel
theorem dX12_near_268 : decode cX12_near 268 = .ok (.iaload, 1) := by decide +kernel
theorem dX12_near_269 : decode cX12_near 269 = .ok (.invokevirtual 216, 3) := by decide +kernel
theorem dX12_near_272 : decode cX12_near 272 = .ok (.iinc 5 1, 3) := by decide +kernel
theorem dX12_near_275 : decode cX12_near 275 = .ok (.goto (-55), 3) := by decide +kernel
theorem dX12_near_278 : decode cX12_near 278 = .ok (.iinc 4 1, 3) := by decide +kernel
theorem dX12_near_281 : decode cX12_near 281 = .ok (.goto (-240), 3) := by decide +kernel
theorem dX12_near_284 : decode cX12_near 284 = .ok (.aload_n 0, 1) := by decide +kernel
theorem dX12_near_285 : decode cX12_near 285 = .ok (.getfield 204, 3) := by decide +kernel
theorem dX12_near_288 : decode cX12_near 288 = .ok (.ireturn, 1) := by decide +kernel
theorem dX12_found_0 : decode cX12_found 0 = .ok (.aload_n 0, 1) := by decide +kernel
theorem dX12_found_1 : decode cX12_found 1 = .ok (.iload_n 1, 1) := by decide +kernel
theorem dX12_found_2 : decode cX12_found 2 = .ok (.ifCond .lt 24, 3) := by decide +kernel
theorem dX12_found_5 : decode cX12_found 5 = .ok (.iload_n 1, 1) := by decide +kernel
theorem dX12_found_6 : decode cX12_found 6 = .ok (.aload_n 0, 1) := by decide +kernel
theorem dX12_found_7 : decode cX12_found 7 = .ok (.getfield 204, 3) := by decide +kernel
theorem dX12_found_10 : decode cX12_found 10 = .ok (.if_icmp .ge 16, 3) := by decide +kernel
theorem dX12_found_13 : decode cX12_found 13 = .ok (.iload_n 2, 1) := by decide +kernel
theorem dX12_found_14 : decode cX12_found 14 = .ok (.ifCond .lt 12, 3) := by decide +kernel
theorem dX12_found_17 : decode cX12_found 17 = .ok (.iload_n 2, 1) := by decide +kernel
theorem dX12_found_18 : decode cX12_found 18 = .ok (.iconst 4, 1) := by decide +kernel
theorem dX12_found_19 : decode cX12_found 19 = .ok (.if_icmp .gt 7, 3) := by decide +kernel
theorem dX12_found_22 : decode cX12_found 22 = .ok (.iconst 0, 1) := by decide +kernel
theorem dX12_found_23 : decode cX12_found 23 = .ok (.goto 4, 3) := by decide +kernel
theorem dX12_found_26 : decode cX12_found 26 = .ok (.iconst 1, 1) := by decide +kernel
theorem dX12_found_27 : decode cX12_found 27 = .ok (.putfield 87, 3) := by decide +kernel
theorem dX12_found_30 : decode cX12_found 30 = .ok (.aload_n 0, 1) := by decide +kernel
theorem dX12_found_31 : decode cX12_found 31 = .ok (.getfield 87, 3) := by decide +kernel
theorem dX12_found_34 : decode cX12_found 34 = .ok (.ifCond .ne 16, 3) := by decide +kernel
theorem dX12_found_37 : decode cX12_found 37 = .ok (.aload_n 0, 1) := by decide +kernel
theorem dX12_found_38 : decode cX12_found 38 = .ok (.getfield 44, 3) := by decide +kernel
theorem dX12_found_41 : decode cX12_found 41 = .ok (.iconst 5, 1) := by decide +kernel
theorem dX12_found_42 : decode cX12_found 42 = .ok (.iload_n 1, 1) := by decide +kernel
theorem dX12_found_43 : decode cX12_found 43 = .ok (.imul, 1) := by decide +kernel
theorem dX12_found_44 : decode cX12_found 44 = .ok (.iload_n 2, 1) := by decide +kernel
theorem dX12_found_45 : decode cX12_found 45 = .ok (.iadd, 1) := by decide +kernel
theorem dX12_found_46 : decode cX12_found 46 = .ok (.iaload, 1) := by decide +kernel
theorem dX12_found_47 : decode cX12_found 47 = .ok (.goto 4, 3) := by decide +kernel
theorem dX12_found_50 : decode cX12_found 50 = .ok (.iconst 0, 1) := by decide +kernel
theorem dX12_found_51 : decode cX12_found 51 = .ok (.ireturn, 1) := by decide +kernel
theorem dX12_unitsOf_0 : decode cX12_unitsOf 0 = .ok (.iconst 0, 1) := by decide +kernel
theorem dX12_unitsOf_1 : decode cX12_unitsOf 1 = .ok (.istore_n 2, 1) := by decide +kernel
theorem dX12_unitsOf_2 : decode cX12_unitsOf 2 = .ok (.iconst 0, 1) := by decide +kernel
theorem dX12_unitsOf_3 : decode cX12_unitsOf 3 = .ok (.istore_n 3, 1) := by decide +kernel
theorem dX12_unitsOf_4 : decode cX12_unitsOf 4 = .ok (.iload_n 3, 1) := by decide +kernel
theorem dX12_unitsOf_5 : decode cX12_unitsOf 5 = .ok (.aload_n 0, 1) := by decide +kernel
theorem dX12_unitsOf_6 : decode cX12_unitsOf 6 = .ok (.getfield 18, 3) := by decide +kernel
theorem dX12_unitsOf_9 : decode cX12_unitsOf 9 = .ok (.iload_n 1, 1) := by decide +kernel
theorem dX12_unitsOf_10 : decode cX12_unitsOf 10 = .ok (.iaload, 1) := by decide +kernel
theorem dX12_unitsOf_11 : decode cX12_unitsOf 11 = .ok (.if_icmp .ge 41, 3) := by decide +kernel
theorem dX12_unitsOf_14 : decode cX12_unitsOf 14 = .ok (.iload_n 2, 1) := by decide +kernel
theorem dX12_unitsOf_15 : decode cX12_unitsOf 15 = .ok (.aload_n 0, 1) := by decide +kernel
theorem dX12_unitsOf_16 : decode cX12_unitsOf 16 = .ok (.getfield 11, 3) := by decide +kernel
theorem dX12_unitsOf_19 : decode cX12_unitsOf 19 = .ok (.bipush 24, 2) := by decide +kernel
theorem dX12_unitsOf_21 : decode cX12_unitsOf 21 = .ok (.iload_n 1, 1) := by decide +kernel
theorem dX12_unitsOf_22 : decode cX12_unitsOf 22 = .ok (.imul, 1) := by decide +kernel
theorem dX12_unitsOf_23 : decode cX12_unitsOf 23 = .ok (.iload_n 3, 1) := by decide +kernel
theorem dX12_unitsOf_24 : decode cX12_unitsOf 24 = .ok (.iadd, 1) := by decide +kernel
theorem dX12_unitsOf_25 : decode cX12_unitsOf 25 = .ok (.iaload, 1) := by decide +kernel
theorem dX12_unitsOf_26 : decode cX12_unitsOf 26 = .ok (.ifCond .ge 7, 3) := by decide +kernel
theorem dX12_unitsOf_29 : decode cX12_unitsOf 29 = .ok (.iconst 0, 1) := by decide +kernel
theorem dX12_unitsOf_30 : decode cX12_unitsOf 30 = .ok (.goto 14, 3) := by decide +kernel
theorem dX12_unitsOf_33 : decode cX12_unitsOf 33 = .ok (.aload_n 0, 1) := by decide +kernel
theorem dX12_unitsOf_34 : decode cX12_unitsOf 34 = .ok (.getfield 15, 3) := by decide +kernel
theorem dX12_unitsOf_37 : decode cX12_unitsOf 37 = .ok (.bipush 24, 2) := by decide +kernel
theorem dX12_unitsOf_39 : decode cX12_unitsOf 39 = .ok (.iload_n 1, 1) := by decide +kernel
theorem dX12_unitsOf_40 : decode cX12_unitsOf 40 = .ok (.imul, 1) := by decide +kernel
theorem dX12_unitsOf_41 : decode cX12_unitsOf 41 = .ok (.iload_n 3, 1) := by decide +kernel
theorem dX12_unitsOf_42 : decode cX12_unitsOf 42 = .ok (.iadd, 1) := by decide +kernel
theorem dX12_unitsOf_43 : decode cX12_unitsOf 43 = .ok (.iaload, 1) := by decide +kernel
theorem dX12_unitsOf_44 : decode cX12_unitsOf 44 = .ok (.iadd, 1) := by decide +kernel
theorem dX12_unitsOf_45 : decode cX12_unitsOf 45 = .ok (.istore_n 2, 1) := by decide +kernel
theorem dX12_unitsOf_46 : decode cX12_unitsOf 46 = .ok (.iinc 3 1, 3) := by decide +kernel
theorem dX12_unitsOf_49 : decode cX12_unitsOf 49 = .ok (.goto (-45), 3) := by decide +kernel
theorem dX12_unitsOf_52 : decode cX12_unitsOf 52 = .ok (.iload_n 2, 1) := by decide +kernel
theorem dX12_unitsOf_53 : decode cX12_unitsOf 53 = .ok (.ireturn, 1) := by decide +kernel
theorem dX12_lay_0 : decode cX12_lay 0 = .ok (.iconst 0, 1) := by decide +kernel
theorem dX12_lay_1 : decode cX12_lay 1 = .ok (.istore_n 3, 1) := by decide +kernel
theorem dX12_lay_2 : decode cX12_lay 2 = .ok (.iconst 0, 1) := by decide +kernel
theorem dX12_lay_3 : decode cX12_lay 3 = .ok (.istore 4, 2) := by decide +kernel
theorem dX12_lay_5 : decode cX12_lay 5 = .ok (.iload 4, 2) := by decide +kernel
theorem dX12_lay_7 : decode cX12_lay 7 = .ok (.aload_n 0, 1) := by decide +kernel
theorem dX12_lay_8 : decode cX12_lay 8 = .ok (.getfield 18, 3) := by decide +kernel
theorem dX12_lay_11 : decode cX12_lay 11 = .ok (.iload_n 1, 1) := by decide +kernel
theorem dX12_lay_12 : decode cX12_lay 12 = .ok (.iaload, 1) := by decide +kernel
theorem dX12_lay_13 : decode cX12_lay 13 = .ok (.if_icmp .ge 210, 3) := by decide +kernel
theorem dX12_lay_16 : decode cX12_lay 16 = .ok (.aload_n 0, 1) := by decide +kernel
theorem dX12_lay_17 : decode cX12_lay 17 = .ok (.getfield 11, 3) := by decide +kernel
theorem dX12_lay_20 : decode cX12_lay 20 = .ok (.bipush 24, 2) := by decide +kernel
theorem dX12_lay_22 : decode cX12_lay 22 = .ok (.iload_n 1, 1) := by decide +kernel
theorem dX12_lay_23 : decode cX12_lay 23 = .ok (.imul, 1) := by decide +kernel
theorem dX12_lay_24 : decode cX12_lay 24 = .ok (.iload 4, 2) := by decide +kernel
theorem dX12_lay_26 : decode cX12_lay 26 = .ok (.iadd, 1) := by decide +kernel
theorem dX12_lay_27 : decode cX12_lay 27 = .ok (.iaload, 1) := by decide +kernel
theorem dX12_lay_28 : decode cX12_lay 28 = .ok (.istore 5, 2) := by decide +kernel
theorem dX12_lay_30 : decode cX12_lay 30 = .ok (.aload_n 0, 1) := by decide +kernel
theorem dX12_lay_31 : decode cX12_lay 31 = .ok (.getfield 65, 3) := by decide +kernel
theorem dX12_lay_34 : decode cX12_lay 34 = .ok (.iload 4, 2) := by decide +kernel
theorem dX12_lay_36 : decode cX12_lay 36 = .ok (.iload 5, 2) := by decide +kernel
theorem dX12_lay_38 : decode cX12_lay 38 = .ok (.ifCond .ge 7, 3) := by decide +kernel
theorem dX12_lay_41 : decode cX12_lay 41 = .ok (.iconst 0, 1) := by decide +kernel
theorem dX12_lay_42 : decode cX12_lay 42 = .ok (.goto 15, 3) := by decide +kernel
theorem dX12_lay_45 : decode cX12_lay 45 = .ok (.aload_n 0, 1) := by decide +kernel
theorem dX12_lay_46 : decode cX12_lay 46 = .ok (.getfield 15, 3) := by decide +kernel
theorem dX12_lay_49 : decode cX12_lay 49 = .ok (.bipush 24, 2) := by decide +kernel
theorem dX12_lay_51 : decode cX12_lay 51 = .ok (.iload_n 1, 1) := by decide +kernel
theorem dX12_lay_52 : decode cX12_lay 52 = .ok (.imul, 1) := by decide +kernel
theorem dX12_lay_53 : decode cX12_lay 53 = .ok (.iload 4, 2) := by decide +kernel
theorem dX12_lay_55 : decode cX12_lay 55 = .ok (.iadd, 1) := by decide +kernel
theorem dX12_lay_56 : decode cX12_lay 56 = .ok (.iaload, 1) := by decide +kernel
theorem dX12_lay_57 : decode cX12_lay 57 = .ok (.iastore, 1) := by decide +kernel
theorem dX12_lay_58 : decode cX12_lay 58 = .ok (.iconst 0, 1) := by decide +kernel
theorem dX12_lay_59 : decode cX12_lay 59 = .ok (.istore 6, 2) := by decide +kernel
theorem dX12_lay_61 : decode cX12_lay 61 = .ok (.iconst 0, 1) := by decide +kernel
theorem dX12_lay_62 : decode cX12_lay 62 = .ok (.istore 7, 2) := by decide +kernel
theorem dX12_lay_64 : decode cX12_lay 64 = .ok (.iload 7, 2) := by decide +kernel
theorem dX12_lay_66 : decode cX12_lay 66 = .ok (.aload_n 0, 1) := by decide +kernel
theorem dX12_lay_67 : decode cX12_lay 67 = .ok (.getfield 18, 3) := by decide +kernel
theorem dX12_lay_70 : decode cX12_lay 70 = .ok (.iload_n 2, 1) := by decide +kernel
theorem dX12_lay_71 : decode cX12_lay 71 = .ok (.iaload, 1) := by decide +kernel
theorem dX12_lay_72 : decode cX12_lay 72 = .ok (.if_icmp .ge 130, 3) := by decide +kernel
theorem dX12_lay_75 : decode cX12_lay 75 = .ok (.aload_n 0, 1) := by decide +kernel
theorem dX12_lay_76 : decode cX12_lay 76 = .ok (.getfield 11, 3) := by decide +kernel
theorem dX12_lay_79 : decode cX12_lay 79 = .ok (.bipush 24, 2) := by decide +kernel
theorem dX12_lay_81 : decode cX12_lay 81 = .ok (.iload_n 2, 1) := by decide +kernel
theorem dX12_lay_82 : decode cX12_lay 82 = .ok (.imul, 1) := by decide +kernel
theorem dX12_lay_83 : decode cX12_lay 83 = .ok (.iload 7, 2) := by decide +kernel
theorem dX12_lay_85 : decode cX12_lay 85 = .ok (.iadd, 1) := by decide +kernel
theorem dX12_lay_86 : decode cX12_lay 86 = .ok (.iaload, 1) := by decide +kernel
theorem dX12_lay_87 : decode cX12_lay 87 = .ok (.istore 8, 2) := by decide +kernel
theorem dX12_lay_89 : decode cX12_lay 89 = .ok (.aload_n 0, 1) := by decide +kernel
theorem dX12_lay_90 : decode cX12_lay 90 = .ok (.getfield 68, 3) := by decide +kernel
theorem dX12_lay_93 : decode cX12_lay 93 = .ok (.iload 7, 2) := by decide +kernel
theorem dX12_lay_95 : decode cX12_lay 95 = .ok (.iload 8, 2) := by decide +kernel
theorem dX12_lay_97 : decode cX12_lay 97 = .ok (.ifCond .ge 7, 3) := by decide +kernel
theorem dX12_lay_100 : decode cX12_lay 100 = .ok (.iconst 0, 1) := by decide +kernel
theorem dX12_lay_101 : decode cX12_lay 101 = .ok (.goto 15, 3) := by decide +kernel
theorem dX12_lay_104 : decode cX12_lay 104 = .ok (.aload_n 0, 1) := by decide +kernel
theorem dX12_lay_105 : decode cX12_lay 105 = .ok (.getfield 15, 3) := by decide +kernel
theorem dX12_lay_108 : decode cX12_lay 108 = .ok (.bipush 24, 2) := by decide +kernel
theorem dX12_lay_110 : decode cX12_lay 110 = .ok (.iload_n 2, 1) := by decide +kernel
theorem dX12_lay_111 : decode cX12_lay 111 = .ok (.imul, 1) := by decide +kernel
theorem dX12_lay_112 : decode cX12_lay 112 = .ok (.iload 7, 2) := by decide +kernel
theorem dX12_lay_114 : decode cX12_lay 114 = .ok (.iadd, 1) := by decide +kernel
theorem dX12_lay_115 : decode cX12_lay 115 = .ok (.iaload, 1) := by decide +kernel
theorem dX12_lay_116 : decode cX12_lay 116 = .ok (.iastore, 1) := by decide +kernel
theorem dX12_lay_117 : decode cX12_lay 117 = .ok (.aload_n 0, 1) := by decide +kernel
theorem dX12_lay_118 : decode cX12_lay 118 = .ok (.getfield 74, 3) := by decide +kernel
theorem dX12_lay_121 : decode cX12_lay 121 = .ok (.bipush 24, 2) := by decide +kernel
theorem dX12_lay_123 : decode cX12_lay 123 = .ok (.iload 4, 2) := by decide +kernel
theorem dX12_lay_125 : decode cX12_lay 125 = .ok (.imul, 1) := by decide +kernel
theorem dX12_lay_126 : decode cX12_lay 126 = .ok (.iload 7, 2) := by decide +kernel
theorem dX12_lay_128 : decode cX12_lay 128 = .ok (.iadd, 1) := by decide +kernel
theorem dX12_lay_129 : decode cX12_lay 129 = .ok (.aload_n 0, 1) := by decide +kernel
theorem dX12_lay_130 : decode cX12_lay 130 = .ok (.getfield 21, 3) := by decide +kernel
theorem dX12_lay_133 : decode cX12_lay 133 = .ok (.iconst 5, 1) := by decide +kernel
theorem dX12_lay_134 : decode cX12_lay 134 = .ok (.iaload, 1) := by decide +kernel
theorem dX12_lay_135 : decode cX12_lay 135 = .ok (.i2l, 1) := by decide +kernel
theorem dX12_lay_136 : decode cX12_lay 136 = .ok (.iload_n 3, 1) := by decide +kernel
theorem dX12_lay_137 : decode cX12_lay 137 = .ok (.iload 6, 2) := by decide +kernel
theorem dX12_lay_139 : decode cX12_lay 139 = .ok (.isub, 1) := by decide +kernel
theorem dX12_lay_140 : decode cX12_lay 140 = .ok (.invokestatic 220, 3) := by decide +kernel
theorem dX12_lay_143 : decode cX12_lay 143 = .ok (.i2l, 1) := by decide +kernel
theorem dX12_lay_144 : decode cX12_lay 144 = .ok (.lmul, 1) := by decide +kernel
theorem dX12_lay_145 : decode cX12_lay 145 = .ok (.aload_n 0, 1) := by decide +kernel
theorem dX12_lay_146 : decode cX12_lay 146 = .ok (.getfield 21, 3) := by decide +kernel
theorem dX12_lay_149 : decode cX12_lay 149 = .ok (.bipush 6, 2) := by decide +kernel
theorem dX12_lay_151 : decode cX12_lay 151 = .ok (.iaload, 1) := by decide +kernel
theorem dX12_lay_152 : decode cX12_lay 152 = .ok (.i2l, 1) := by decide +kernel
theorem dX12_lay_153 : decode cX12_lay 153 = .ok (.iload 5, 2) := by decide +kernel
theorem dX12_lay_155 : decode cX12_lay 155 = .ok (.iload 8, 2) := by decide +kernel
theorem dX12_lay_157 : decode cX12_lay 157 = .ok (.isub, 1) := by decide +kernel
theorem dX12_lay_158 : decode cX12_lay 158 = .ok (.invokestatic 220, 3) := by decide +kernel
theorem dX12_lay_161 : decode cX12_lay 161 = .ok (.i2l, 1) := by decide +kernel
theorem dX12_lay_162 : decode cX12_lay 162 = .ok (.lmul, 1) := by decide +kernel
theorem dX12_lay_163 : decode cX12_lay 163 = .ok (.ladd, 1) := by decide +kernel
theorem dX12_lay_164 : decode cX12_lay 164 = .ok (.lastore, 1) := by decide +kernel
theorem dX12_lay_165 : decode cX12_lay 165 = .ok (.aload_n 0, 1) := by decide +kernel
theorem dX12_lay_166 : decode cX12_lay 166 = .ok (.getfield 71, 3) := by decide +kernel
theorem dX12_lay_169 : decode cX12_lay 169 = .ok (.bipush 24, 2) := by decide +kernel
theorem dX12_lay_171 : decode cX12_lay 171 = .ok (.iload 4, 2) := by decide +kernel
theorem dX12_lay_173 : decode cX12_lay 173 = .ok (.imul, 1) := by decide +kernel
theorem dX12_lay_174 : decode cX12_lay 174 = .ok (.iload 7, 2) := by decide +kernel
theorem dX12_lay_176 : decode cX12_lay 176 = .ok (.iadd, 1) := by decide +kernel
theorem dX12_lay_177 : decode cX12_lay 177 = .ok (.iconst 0, 1) := by decide +kernel
theorem dX12_lay_178 : decode cX12_lay 178 = .ok (.iastore, 1) := by decide +kernel
theorem dX12_lay_179 : decode cX12_lay 179 = .ok (.iload 6, 2) := by decide +kernel
theorem dX12_lay_181 : decode cX12_lay 181 = .ok (.aload_n 0, 1) := by decide +kernel
theorem dX12_lay_182 : decode cX12_lay 182 = .ok (.getfield 15, 3) := by decide +kernel
theorem dX12_lay_185 : decode cX12_lay 185 = .ok (.bipush 24, 2) := by decide +kernel
theorem dX12_lay_187 : decode cX12_lay 187 = .ok (.iload_n 2, 1) := by decide +kernel
theorem dX12_lay_188 : decode cX12_lay 188 = .ok (.imul, 1) := by decide +kernel
theorem dX12_lay_189 : decode cX12_lay 189 = .ok (.iload 7, 2) := by decide +kernel
theorem dX12_lay_191 : decode cX12_lay 191 = .ok (.iadd, 1) := by decide +kernel
theorem dX12_lay_192 : decode cX12_lay 192 = .ok (.iaload, 1) := by decide +kernel
theorem dX12_lay_193 : decode cX12_lay 193 = .ok (.iadd, 1) := by decide +kernel
theorem dX12_lay_194 : decode cX12_lay 194 = .ok (.istore 6, 2) := by decide +kernel
theorem dX12_lay_196 : decode cX12_lay 196 = .ok (.iinc 7 1, 3) := by decide +kernel
theorem dX12_lay_199 : decode cX12_lay 199 = .ok (.goto (-135), 3) := by decide +kernel
theorem dX12_lay_202 : decode cX12_lay 202 = .ok (.iload_n 3, 1) := by decide +kernel
theorem dX12_lay_203 : decode cX12_lay 203 = .ok (.aload_n 0, 1) := by decide +kernel
theorem dX12_lay_204 : decode cX12_lay 204 = .ok (.getfield 15, 3) := by decide +kernel
theorem dX12_lay_207 : decode cX12_lay 207 = .ok (.bipush 24, 2) := by decide +kernel
theorem dX12_lay_209 : decode cX12_lay 209 = .ok (.iload_n 1, 1) := by decide +kernel
theorem dX12_lay_210 : decode cX12_lay 210 = .ok (.imul, 1) := by decide +kernel
theorem dX12_lay_211 : decode cX12_lay 211 = .ok (.iload 4, 2) := by decide +kernel
theorem dX12_lay_213 : decode cX12_lay 213 = .ok (.iadd, 1) := by decide +kernel
theorem dX12_lay_214 : decode cX12_lay 214 = .ok (.iaload, 1) := by decide +kernel
theorem dX12_lay_215 : decode cX12_lay 215 = .ok (.iadd, 1) := by decide +kernel
theorem dX12_lay_216 : decode cX12_lay 216 = .ok (.istore_n 3, 1) := by decide +kernel
theorem dX12_lay_217 : decode cX12_lay 217 = .ok (.iinc 4 1, 3) := by decide +kernel
theorem dX12_lay_220 : decode cX12_lay 220 = .ok (.goto (-215), 3) := by decide +kernel
theorem dX12_lay_223 : decode cX12_lay 223 = .ok (.return_, 1) := by decide +kernel
theorem dX12_reachAll_0 : decode cX12_reachAll 0 = .ok (.iconst 0, 1) := by decide +kernel
theorem dX12_reachAll_1 : decode cX12_reachAll 1 = .ok (.istore_n 3, 1) := by decide +kernel
theorem dX12_reachAll_2 : decode cX12_reachAll 2 = .ok (.iload_n 3, 1) := by decide +kernel
theorem dX12_reachAll_3 : decode cX12_reachAll 3 = .ok (.bipush 24, 2) := by decide +kernel
theorem dX12_reachAll_5 : decode cX12_reachAll 5 = .ok (.if_icmp .ge 70, 3) := by decide +kernel
theorem dX12_reachAll_8 : decode cX12_reachAll 8 = .ok (.aload_n 0, 1) := by decide +kernel
theorem dX12_reachAll_9 : decode cX12_reachAll 9 = .ok (.getfield 78, 3) := by decide +kernel
theorem dX12_reachAll_12 : decode cX12_reachAll 12 = .ok (.iload_n 3, 1) := by decide +kernel
theorem dX12_reachAll_13 : decode cX12_reachAll 13 = .ok (.iload_n 3, 1) := by decide +kernel
theorem dX12_reachAll_14 : decode cX12_reachAll 14 = .ok (.aload_n 0, 1) := by decide +kernel
theorem dX12_reachAll_15 : decode cX12_reachAll 15 = .ok (.getfield 18, 3) := by decide +kernel
theorem dX12_reachAll_18 : decode cX12_reachAll 18 = .ok (.iload_n 1, 1) := by decide +kernel
theorem dX12_reachAll_19 : decode cX12_reachAll 19 = .ok (.iaload, 1) := by decide +kernel
theorem dX12_reachAll_20 : decode cX12_reachAll 20 = .ok (.if_icmp .ge 16, 3) := by decide +kernel
theorem dX12_reachAll_23 : decode cX12_reachAll 23 = .ok (.aload_n 0, 1) := by decide +kernel
theorem dX12_reachAll_24 : decode cX12_reachAll 24 = .ok (.getfield 65, 3) := by decide +kernel
theorem dX12_reachAll_27 : decode cX12_reachAll 27 = .ok (.iload_n 3, 1) := by decide +kernel
theorem dX12_reachAll_28 : decode cX12_reachAll 28 = .ok (.iaload, 1) := by decide +kernel
theorem dX12_reachAll_29 : decode cX12_reachAll 29 = .ok (.ifCond .le 7, 3) := by decide +kernel
theorem dX12_reachAll_32 : decode cX12_reachAll 32 = .ok (.lconst 0, 1) := by decide +kernel
theorem dX12_reachAll_33 : decode cX12_reachAll 33 = .ok (.goto 6, 3) := by decide +kernel
theorem dX12_reachAll_36 : decode cX12_reachAll 36 = .ok (.ldc2_w 245, 3) := by decide +kernel
theorem dX12_reachAll_39 : decode cX12_reachAll 39 = .ok (.lastore, 1) := by decide +kernel
theorem dX12_reachAll_40 : decode cX12_reachAll 40 = .ok (.aload_n 0, 1) := by decide +kernel
theorem dX12_reachAll_41 : decode cX12_reachAll 41 = .ok (.getfield 78, 3) := by decide +kernel
theorem dX12_reachAll_44 : decode cX12_reachAll 44 = .ok (.bipush 24, 2) := by decide +kernel
theorem dX12_reachAll_46 : decode cX12_reachAll 46 = .ok (.iload_n 3, 1) := by decide +kernel
theorem dX12_reachAll_47 : decode cX12_reachAll 47 = .ok (.iadd, 1) := by decide +kernel
theorem dX12_reachAll_48 : decode cX12_reachAll 48 = .ok (.ldc2_w 245, 3) := by decide +kernel
theorem dX12_reachAll_51 : decode cX12_reachAll 51 = .ok (.lastore, 1) := by decide +kernel
theorem dX12_reachAll_52 : decode cX12_reachAll 52 = .ok (.aload_n 0, 1) := by decide +kernel
theorem dX12_reachAll_53 : decode cX12_reachAll 53 = .ok (.getfield 81, 3) := by decide +kernel
theorem dX12_reachAll_56 : decode cX12_reachAll 56 = .ok (.iload_n 3, 1) := by decide +kernel
theorem dX12_reachAll_57 : decode cX12_reachAll 57 = .ok (.iconst (-1), 1) := by decide +kernel
theorem dX12_reachAll_58 : decode cX12_reachAll 58 = .ok (.iastore, 1) := by decide +kernel
theorem dX12_reachAll_59 : decode cX12_reachAll 59 = .ok (.aload_n 0, 1) := by decide +kernel
theorem dX12_reachAll_60 : decode cX12_reachAll 60 = .ok (.getfield 81, 3) := by decide +kernel
theorem dX12_reachAll_63 : decode cX12_reachAll 63 = .ok (.bipush 24, 2) := by decide +kernel
theorem dX12_reachAll_65 : decode cX12_reachAll 65 = .ok (.iload_n 3, 1) := by decide +kernel
theorem dX12_reachAll_66 : decode cX12_reachAll 66 = .ok (.iadd, 1) := by decide +kernel
theorem dX12_reachAll_67 : decode cX12_reachAll 67 = .ok (.iconst (-1), 1) := by decide +kernel
theorem dX12_reachAll_68 : decode cX12_reachAll 68 = .ok (.iastore, 1) := by decide +kernel
theorem dX12_reachAll_69 : decode cX12_reachAll 69 = .ok (.iinc 3 1, 3) := by decide +kernel
theorem dX12_reachAll_72 : decode cX12_reachAll 72 = .ok (.goto (-70), 3) := by decide +kernel
theorem dX12_reachAll_75 : decode cX12_reachAll 75 = .ok (.iconst 1, 1) := by decide +kernel
theorem dX12_reachAll_76 : decode cX12_reachAll 76 = .ok (.istore_n 3, 1) := by decide +kernel
theorem dX12_reachAll_77 : decode cX12_reachAll 77 = .ok (.iload_n 3, 1) := by decide +kernel
theorem dX12_reachAll_78 : decode cX12_reachAll 78 = .ok (.ifCond .eq 265, 3) := by decide +kernel
theorem dX12_reachAll_81 : decode cX12_reachAll 81 = .ok (.iconst 0, 1) := by decide +kernel
theorem dX12_reachAll_82 : decode cX12_reachAll 82 = .ok (.istore_n 3, 1) := by decide +kernel
theorem dX12_reachAll_83 : decode cX12_reachAll 83 = .ok (.iconst 0, 1) := by decide +kernel
theorem dX12_reachAll_84 : decode cX12_reachAll 84 = .ok (.istore 4, 2) := by decide +kernel
theorem dX12_reachAll_86 : decode cX12_reachAll 86 = .ok (.iload 4, 2) := by decide +kernel
theorem dX12_reachAll_88 : decode cX12_reachAll 88 = .ok (.aload_n 0, 1) := by decide +kernel
theorem dX12_reachAll_89 : decode cX12_reachAll 89 = .ok (.getfield 18, 3) := by decide +kernel
theorem dX12_reachAll_92 : decode cX12_reachAll 92 = .ok (.iload_n 1, 1) := by decide +kernel
theorem dX12_reachAll_93 : decode cX12_reachAll 93 = .ok (.iaload, 1) := by decide +kernel
theorem dX12_reachAll_94 : decode cX12_reachAll 94 = .ok (.if_icmp .ge 246, 3) := by decide +kernel
theorem dX12_reachAll_97 : decode cX12_reachAll 97 = .ok (.iconst 0, 1) := by decide +kernel
theorem dX12_reachAll_98 : decode cX12_reachAll 98 = .ok (.istore 5, 2) := by decide +kernel
theorem dX12_reachAll_100 : decode cX12_reachAll 100 = .ok (.iload 5, 2) := by decide +kernel
theorem dX12_reachAll_102 : decode cX12_reachAll 102 = .ok (.aload_n 0, 1) := by decide +kernel
theorem dX12_reachAll_103 : decode cX12_reachAll 103 = .ok (.getfield 18, 3) := by decide +kernel
theorem dX12_reachAll_106 : decode cX12_reachAll 106 = .ok (.iload_n 2, 1) := by decide +kernel
theorem dX12_reachAll_107 : decode cX12_reachAll 107 = .ok (.iaload, 1) := by decide +kernel
theorem dX12_reachAll_108 : decode cX12_reachAll 108 = .ok (.if_icmp .ge 226, 3) := by decide +kernel
theorem dX12_reachAll_111 : decode cX12_reachAll 111 = .ok (.aload_n 0, 1) := by decide +kernel
theorem dX12_reachAll_112 : decode cX12_reachAll 112 = .ok (.getfield 11, 3) := by decide +kernel
theorem dX12_reachAll_115 : decode cX12_reachAll 115 = .ok (.bipush 24, 2) := by decide +kernel
theorem dX12_reachAll_117 : decode cX12_reachAll 117 = .ok (.iload_n 1, 1) := by decide +kernel
theorem dX12_reachAll_118 : decode cX12_reachAll 118 = .ok (.imul, 1) := by decide +kernel
theorem dX12_reachAll_119 : decode cX12_reachAll 119 = .ok (.iload 4, 2) := by decide +kernel
theorem dX12_reachAll_121 : decode cX12_reachAll 121 = .ok (.iadd, 1) := by decide +kernel
theorem dX12_reachAll_122 : decode cX12_reachAll 122 = .ok (.iaload, 1) := by decide +kernel
theorem dX12_reachAll_123 : decode cX12_reachAll 123 = .ok (.ifCond .lt 22, 3) := by decide +kernel
theorem dX12_reachAll_126 : decode cX12_reachAll 126 = .ok (.aload_n 0, 1) := by decide +kernel
theorem dX12_reachAll_127 : decode cX12_reachAll 127 = .ok (.getfield 11, 3) := by decide +kernel
theorem dX12_reachAll_130 : decode cX12_reachAll 130 = .ok (.bipush 24, 2) := by decide +kernel
theorem dX12_reachAll_132 : decode cX12_reachAll 132 = .ok (.iload_n 2, 1) := by decide +kernel
theorem dX12_reachAll_133 : decode cX12_reachAll 133 = .ok (.imul, 1) := by decide +kernel
theorem dX12_reachAll_134 : decode cX12_reachAll 134 = .ok (.iload 5, 2) := by decide +kernel
theorem dX12_reachAll_136 : decode cX12_reachAll 136 = .ok (.iadd, 1) := by decide +kernel
theorem dX12_reachAll_137 : decode cX12_reachAll 137 = .ok (.iaload, 1) := by decide +kernel
theorem dX12_reachAll_138 : decode cX12_reachAll 138 = .ok (.ifCond .lt 7, 3) := by decide +kernel
theorem dX12_reachAll_141 : decode cX12_reachAll 141 = .ok (.iconst 1, 1) := by decide +kernel
theorem dX12_reachAll_142 : decode cX12_reachAll 142 = .ok (.goto 4, 3) := by decide +kernel
theorem dX12_reachAll_145 : decode cX12_reachAll 145 = .ok (.iconst 0, 1) := by decide +kernel
theorem dX12_reachAll_146 : decode cX12_reachAll 146 = .ok (.istore 6, 2) := by decide +kernel
theorem dX12_reachAll_148 : decode cX12_reachAll 148 = .ok (.aload_n 0, 1) := by decide +kernel
theorem dX12_reachAll_149 : decode cX12_reachAll 149 = .ok (.getfield 74, 3) := by decide +kernel
theorem dX12_reachAll_152 : decode cX12_reachAll 152 = .ok (.bipush 24, 2) := by decide +kernel
theorem dX12_reachAll_154 : decode cX12_reachAll 154 = .ok (.iload 4, 2) := by decide +kernel
theorem dX12_reachAll_156 : decode cX12_reachAll 156 = .ok (.imul, 1) := by decide +kernel
theorem dX12_reachAll_157 : decode cX12_reachAll 157 = .ok (.iload 5, 2) := by decide +kernel
theorem dX12_reachAll_159 : decode cX12_reachAll 159 = .ok (.iadd, 1) := by decide +kernel
theorem dX12_reachAll_160 : decode cX12_reachAll 160 = .ok (.laload, 1) := by decide +kernel
theorem dX12_reachAll_161 : decode cX12_reachAll 161 = .ok (.lstore 7, 2) := by decide +kernel
theorem dX12_reachAll_163 : decode cX12_reachAll 163 = .ok (.iload 6, 2) := by decide +kernel
theorem dX12_reachAll_165 : decode cX12_reachAll 165 = .ok (.ifCond .eq 75, 3) := by decide +kernel
theorem dX12_reachAll_168 : decode cX12_reachAll 168 = .ok (.aload_n 0, 1) := by decide +kernel
theorem dX12_reachAll_169 : decode cX12_reachAll 169 = .ok (.getfield 78, 3) := by decide +kernel
theorem dX12_reachAll_172 : decode cX12_reachAll 172 = .ok (.iload 4, 2) := by decide +kernel
theorem dX12_reachAll_174 : decode cX12_reachAll 174 = .ok (.laload, 1) := by decide +kernel
theorem dX12_reachAll_175 : decode cX12_reachAll 175 = .ok (.ldc2_w 245, 3) := by decide +kernel
theorem dX12_reachAll_178 : decode cX12_reachAll 178 = .ok (.lcmp, 1) := by decide +kernel
theorem dX12_reachAll_179 : decode cX12_reachAll 179 = .ok (.ifCond .ge 61, 3) := by decide +kernel
theorem dX12_reachAll_182 : decode cX12_reachAll 182 = .ok (.aload_n 0, 1) := by decide +kernel
theorem dX12_reachAll_183 : decode cX12_reachAll 183 = .ok (.getfield 78, 3) := by decide +kernel
theorem dX12_reachAll_186 : decode cX12_reachAll 186 = .ok (.iload 4, 2) := by decide +kernel
theorem dX12_reachAll_188 : decode cX12_reachAll 188 = .ok (.laload, 1) := by decide +kernel
theorem dX12_reachAll_189 : decode cX12_reachAll 189 = .ok (.lload 7, 2) := by decide +kernel
theorem dX12_reachAll_191 : decode cX12_reachAll 191 = .ok (.ladd, 1) := by decide +kernel
theorem dX12_reachAll_192 : decode cX12_reachAll 192 = .ok (.aload_n 0, 1) := by decide +kernel
theorem dX12_reachAll_193 : decode cX12_reachAll 193 = .ok (.getfield 78, 3) := by decide +kernel
theorem dX12_reachAll_196 : decode cX12_reachAll 196 = .ok (.bipush 24, 2) := by decide +kernel
theorem dX12_reachAll_198 : decode cX12_reachAll 198 = .ok (.iload 5, 2) := by decide +kernel
theorem dX12_reachAll_200 : decode cX12_reachAll 200 = .ok (.iadd, 1) := by decide +kernel
theorem dX12_reachAll_201 : decode cX12_reachAll 201 = .ok (.laload, 1) := by decide +kernel
theorem dX12_reachAll_202 : decode cX12_reachAll 202 = .ok (.lcmp, 1) := by decide +kernel
theorem dX12_reachAll_203 : decode cX12_reachAll 203 = .ok (.ifCond .ge 37, 3) := by decide +kernel
theorem dX12_reachAll_206 : decode cX12_reachAll 206 = .ok (.aload_n 0, 1) := by decide +kernel
theorem dX12_reachAll_207 : decode cX12_reachAll 207 = .ok (.getfield 78, 3) := by decide +kernel
theorem dX12_reachAll_210 : decode cX12_reachAll 210 = .ok (.bipush 24, 2) := by decide +kernel
theorem dX12_reachAll_212 : decode cX12_reachAll 212 = .ok (.iload 5, 2) := by decide +kernel
theorem dX12_reachAll_214 : decode cX12_reachAll 214 = .ok (.iadd, 1) := by decide +kernel
theorem dX12_reachAll_215 : decode cX12_reachAll 215 = .ok (.aload_n 0, 1) := by decide +kernel
theorem dX12_reachAll_216 : decode cX12_reachAll 216 = .ok (.getfield 78, 3) := by decide +kernel
theorem dX12_reachAll_219 : decode cX12_reachAll 219 = .ok (.iload 4, 2) := by decide +kernel
theorem dX12_reachAll_221 : decode cX12_reachAll 221 = .ok (.laload, 1) := by decide +kernel
theorem dX12_reachAll_222 : decode cX12_reachAll 222 = .ok (.lload 7, 2) := by decide +kernel
theorem dX12_reachAll_224 : decode cX12_reachAll 224 = .ok (.ladd, 1) := by decide +kernel
theorem dX12_reachAll_225 : decode cX12_reachAll 225 = .ok (.lastore, 1) := by decide +kernel
theorem dX12_reachAll_226 : decode cX12_reachAll 226 = .ok (.aload_n 0, 1) := by decide +kernel
theorem dX12_reachAll_227 : decode cX12_reachAll 227 = .ok (.getfield 81, 3) := by decide +kernel
theorem dX12_reachAll_230 : decode cX12_reachAll 230 = .ok (.bipush 24, 2) := by decide +kernel
theorem dX12_reachAll_232 : decode cX12_reachAll 232 = .ok (.iload 5, 2) := by decide +kernel
theorem dX12_reachAll_234 : decode cX12_reachAll 234 = .ok (.iadd, 1) := by decide +kernel
theorem dX12_reachAll_235 : decode cX12_reachAll 235 = .ok (.iload 4, 2) := by decide +kernel
theorem dX12_reachAll_237 : decode cX12_reachAll 237 = .ok (.iastore, 1) := by decide +kernel
theorem dX12_reachAll_238 : decode cX12_reachAll 238 = .ok (.iconst 1, 1) := by decide +kernel
theorem dX12_reachAll_239 : decode cX12_reachAll 239 = .ok (.istore_n 3, 1) := by decide +kernel
theorem dX12_reachAll_240 : decode cX12_reachAll 240 = .ok (.aload_n 0, 1) := by decide +kernel
theorem dX12_reachAll_241 : decode cX12_reachAll 241 = .ok (.getfield 71, 3) := by decide +kernel
theorem dX12_reachAll_244 : decode cX12_reachAll 244 = .ok (.bipush 24, 2) := by decide +kernel
theorem dX12_reachAll_246 : decode cX12_reachAll 246 = .ok (.iload 4, 2) := by decide +kernel
theorem dX12_reachAll_248 : decode cX12_reachAll 248 = .ok (.imul, 1) := by decide +kernel
theorem dX12_reachAll_249 : decode cX12_reachAll 249 = .ok (.iload 5, 2) := by decide +kernel
theorem dX12_reachAll_251 : decode cX12_reachAll 251 = .ok (.iadd, 1) := by decide +kernel
theorem dX12_reachAll_252 : decode cX12_reachAll 252 = .ok (.iaload, 1) := by decide +kernel
theorem dX12_reachAll_253 : decode cX12_reachAll 253 = .ok (.ifCond .le 75, 3) := by decide +kernel
theorem dX12_reachAll_256 : decode cX12_reachAll 256 = .ok (.aload_n 0, 1) := by decide +kernel
theorem dX12_reachAll_257 : decode cX12_reachAll 257 = .ok (.getfield 78, 3) := by decide +kernel
theorem dX12_reachAll_260 : decode cX12_reachAll 260 = .ok (.bipush 24, 2) := by decide +kernel
theorem dX12_reachAll_262 : decode cX12_reachAll 262 = .ok (.iload 5, 2) := by decide +kernel
theorem dX12_reachAll_264 : decode cX12_reachAll 264 = .ok (.iadd, 1) := by decide +kernel
theorem dX12_reachAll_265 : decode cX12_reachAll 265 = .ok (.laload, 1) := by decide +kernel
theorem dX12_reachAll_266 : decode cX12_reachAll 266 = .ok (.ldc2_w 245, 3) := by decide +kernel
theorem dX12_reachAll_269 : decode cX12_reachAll 269 = .ok (.lcmp, 1) := by decide +kernel
theorem dX12_reachAll_270 : decode cX12_reachAll 270 = .ok (.ifCond .ge 58, 3) := by decide +kernel
theorem dX12_reachAll_273 : decode cX12_reachAll 273 = .ok (.aload_n 0, 1) := by decide +kernel
theorem dX12_reachAll_274 : decode cX12_reachAll 274 = .ok (.getfield 78, 3) := by decide +kernel
theorem dX12_reachAll_277 : decode cX12_reachAll 277 = .ok (.bipush 24, 2) := by decide +kernel
theorem dX12_reachAll_279 : decode cX12_reachAll 279 = .ok (.iload 5, 2) := by decide +kernel
theorem dX12_reachAll_281 : decode cX12_reachAll 281 = .ok (.iadd, 1) := by decide +kernel
theorem dX12_reachAll_282 : decode cX12_reachAll 282 = .ok (.laload, 1) := by decide +kernel
theorem dX12_reachAll_283 : decode cX12_reachAll 283 = .ok (.lload 7, 2) := by decide +kernel
theorem dX12_reachAll_285 : decode cX12_reachAll 285 = .ok (.lsub, 1) := by decide +kernel
theorem dX12_reachAll_286 : decode cX12_reachAll 286 = .ok (.aload_n 0, 1) := by decide +kernel
theorem dX12_reachAll_287 : decode cX12_reachAll 287 = .ok (.getfield 78, 3) := by decide +kernel
theorem dX12_reachAll_290 : decode cX12_reachAll 290 = .ok (.iload 4, 2) := by decide +kernel
theorem dX12_reachAll_292 : decode cX12_reachAll 292 = .ok (.laload, 1) := by decide +kernel
theorem dX12_reachAll_293 : decode cX12_reachAll 293 = .ok (.lcmp, 1) := by decide +kernel
theorem dX12_reachAll_294 : decode cX12_reachAll 294 = .ok (.ifCond .ge 34, 3) := by decide +kernel
theorem dX12_reachAll_297 : decode cX12_reachAll 297 = .ok (.aload_n 0, 1) := by decide +kernel
theorem dX12_reachAll_298 : decode cX12_reachAll 298 = .ok (.getfield 78, 3) := by decide +kernel
theorem dX12_reachAll_301 : decode cX12_reachAll 301 = .ok (.iload 4, 2) := by decide +kernel
theorem dX12_reachAll_303 : decode cX12_reachAll 303 = .ok (.aload_n 0, 1) := by decide +kernel
theorem dX12_reachAll_304 : decode cX12_reachAll 304 = .ok (.getfield 78, 3) := by decide +kernel
theorem dX12_reachAll_307 : decode cX12_reachAll 307 = .ok (.bipush 24, 2) := by decide +kernel
theorem dX12_reachAll_309 : decode cX12_reachAll 309 = .ok (.iload 5, 2) := by decide +kernel
theorem dX12_reachAll_311 : decode cX12_reachAll 311 = .ok (.iadd, 1) := by decide +kernel
theorem dX12_reachAll_312 : decode cX12_reachAll 312 = .ok (.laload, 1) := by decide +kernel
theorem dX12_reachAll_313 : decode cX12_reachAll 313 = .ok (.lload 7, 2) := by decide +kernel
theorem dX12_reachAll_315 : decode cX12_reachAll 315 = .ok (.lsub, 1) := by decide +kernel
theorem dX12_reachAll_316 : decode cX12_reachAll 316 = .ok (.lastore, 1) := by decide +kernel
theorem dX12_reachAll_317 : decode cX12_reachAll 317 = .ok (.aload_n 0, 1) := by decide +kernel
theorem dX12_reachAll_318 : decode cX12_reachAll 318 = .ok (.getfield 81, 3) := by decide +kernel
theorem dX12_reachAll_321 : decode cX12_reachAll 321 = .ok (.iload 4, 2) := by decide +kernel
theorem dX12_reachAll_323 : decode cX12_reachAll 323 = .ok (.iload 5, 2) := by decide +kernel
theorem dX12_reachAll_325 : decode cX12_reachAll 325 = .ok (.iastore, 1) := by decide +kernel
theorem dX12_reachAll_326 : decode cX12_reachAll 326 = .ok (.iconst 1, 1) := by decide +kernel
theorem dX12_reachAll_327 : decode cX12_reachAll 327 = .ok (.istore_n 3, 1) := by decide +kernel
theorem dX12_reachAll_328 : decode cX12_reachAll 328 = .ok (.iinc 5 1, 3) := by decide +kernel
theorem dX12_reachAll_331 : decode cX12_reachAll 331 = .ok (.goto (-231), 3) := by decide +kernel
theorem dX12_reachAll_334 : decode cX12_reachAll 334 = .ok (.iinc 4 1, 3) := by decide +kernel
theorem dX12_reachAll_337 : decode cX12_reachAll 337 = .ok (.goto (-251), 3) := by decide +kernel
theorem dX12_reachAll_340 : decode cX12_reachAll 340 = .ok (.goto (-263), 3) := by decide +kernel
theorem dX12_reachAll_343 : decode cX12_reachAll 343 = .ok (.return_, 1) := by decide +kernel
set_option maxRecDepth 20000 in
theorem ggX12_freightOf_X12_unitsOf : GoodIn wsX12_freightOf wsX12_unitsOf := goodIn_r _ [20, 10, 21, 22, 33, 34, 35, 36, 37, 38, 39, 40, 41, 42, 43, 44, 45, 46, 47, 48, 49, 50, 51, 52, 53, 54, 55, 56, 57, 58, 59, 60, 61, 62, 63, 64, 65, 66, 67, 68, 69, 70, 71, 72, 73] (by decide +kernel) (by decide +kernel)
set_option maxRecDepth 20000 in
theorem gX12_freightOf_X12_unitsOf : GoodIn wsX12_freightOf (wsV RX12 247 RX12 yX12_unitsOf wsX12_unitsOf) := goodIn_app (goodIn_of _ (by decide +kernel)) ggX12_freightOf_X12_unitsOf
set_option maxRecDepth 20000 in
theorem ggX12_freightOf_X12_lay : GoodIn wsX12_freightOf wsX12_lay := goodIn_r _ [26, 10, 21, 15, 22, 11, 27, 6, 7, 8, 3, 9, 14, 33, 34, 35, 36, 37, 38, 39, 40, 41, 42, 43, 44, 45, 46, 47, 48, 49, 50, 51, 52, 53, 54, 55, 56, 57, 58, 59, 60, 61, 62, 63, 64, 65, 66, 67, 68, 69, 70, 71, 72, 73] (by decide +kernel) (by decide +kernel)
set_option maxRecDepth 20000 in
theorem gX12_freightOf_X12_lay : GoodIn wsX12_freightOf (wsV RX12 254 RX12 yX12_lay wsX12_lay) := goodIn_app (goodIn_of _ (by decide +kernel)) ggX12_freightOf_X12_lay
set_option maxRecDepth 20000 in
theorem ggX12_freightOf_X12_reachAll : GoodIn wsX12_freightOf wsX12_reachAll := goodIn_r _ [31, 12, 10, 15, 32, 13, 21, 27, 14, 33, 34, 35, 36, 37, 38, 39, 40, 41, 42, 43, 44, 45, 46, 47, 48, 49, 50, 51, 52, 53, 54, 55, 56, 57, 58, 59, 60, 61, 62, 63, 64, 65, 66, 67, 68, 69, 70, 71, 72, 73] (by decide +kernel) (by decide +kernel)
set_option maxRecDepth 20000 in
theorem gX12_freightOf_X12_reachAll : GoodIn wsX12_freightOf (wsV RX12 257 RX12 yX12_reachAll wsX12_reachAll) := goodIn_app (goodIn_of _ (by decide +kernel)) ggX12_freightOf_X12_reachAll
theorem dX12_freightOf_0 : decode cX12_freightOf 0 = .ok (.aload_n 0, 1) := by decide +kernel
theorem dX12_freightOf_1 : decode cX12_freightOf 1 = .ok (.iload_n 1, 1) := by decide +kernel
theorem dX12_freightOf_2 : decode cX12_freightOf 2 = .ok (.invokevirtual 247, 3) := by decide +kernel
theorem dX12_freightOf_5 : decode cX12_freightOf 5 = .ok (.istore_n 3, 1) := by decide +kernel
theorem dX12_freightOf_6 : decode cX12_freightOf 6 = .ok (.aload_n 0, 1) := by decide +kernel
theorem dX12_freightOf_7 : decode cX12_freightOf 7 = .ok (.iload_n 2, 1) := by decide +kernel
theorem dX12_freightOf_8 : decode cX12_freightOf 8 = .ok (.invokevirtual 247, 3) := by decide +kernel
theorem dX12_freightOf_11 : decode cX12_freightOf 11 = .ok (.istore 4, 2) := by decide +kernel
theorem dX12_freightOf_13 : decode cX12_freightOf 13 = .ok (.aload_n 0, 1) := by decide +kernel
theorem dX12_freightOf_14 : decode cX12_freightOf 14 = .ok (.iload_n 3, 1) := by decide +kernel
theorem dX12_freightOf_15 : decode cX12_freightOf 15 = .ok (.iload 4, 2) := by decide +kernel
theorem dX12_freightOf_17 : decode cX12_freightOf 17 = .ok (.invokestatic 226, 3) := by decide +kernel
theorem dX12_freightOf_20 : decode cX12_freightOf 20 = .ok (.i2l, 1) := by decide +kernel
theorem dX12_freightOf_21 : decode cX12_freightOf 21 = .ok (.putfield 250, 3) := by decide +kernel
theorem dX12_freightOf_24 : decode cX12_freightOf 24 = .ok (.aload_n 0, 1) := by decide +kernel
theorem dX12_freightOf_25 : decode cX12_freightOf 25 = .ok (.getfield 21, 3) := by decide +kernel
theorem dX12_freightOf_28 : decode cX12_freightOf 28 = .ok (.bipush 7, 2) := by decide +kernel
theorem dX12_freightOf_30 : decode cX12_freightOf 30 = .ok (.iaload, 1) := by decide +kernel
theorem dX12_freightOf_31 : decode cX12_freightOf 31 = .ok (.i2l, 1) := by decide +kernel
theorem dX12_freightOf_32 : decode cX12_freightOf 32 = .ok (.iload_n 3, 1) := by decide +kernel
theorem dX12_freightOf_33 : decode cX12_freightOf 33 = .ok (.iload 4, 2) := by decide +kernel
theorem dX12_freightOf_35 : decode cX12_freightOf 35 = .ok (.isub, 1) := by decide +kernel
theorem dX12_freightOf_36 : decode cX12_freightOf 36 = .ok (.invokestatic 220, 3) := by decide +kernel
theorem dX12_freightOf_39 : decode cX12_freightOf 39 = .ok (.i2l, 1) := by decide +kernel
theorem dX12_freightOf_40 : decode cX12_freightOf 40 = .ok (.lmul, 1) := by decide +kernel
theorem dX12_freightOf_41 : decode cX12_freightOf 41 = .ok (.lstore 5, 2) := by decide +kernel
theorem dX12_freightOf_43 : decode cX12_freightOf 43 = .ok (.aload_n 0, 1) := by decide +kernel
theorem dX12_freightOf_44 : decode cX12_freightOf 44 = .ok (.iload_n 1, 1) := by decide +kernel
theorem dX12_freightOf_45 : decode cX12_freightOf 45 = .ok (.iload_n 2, 1) := by decide +kernel
theorem dX12_freightOf_46 : decode cX12_freightOf 46 = .ok (.invokevirtual 254, 3) := by decide +kernel
theorem dX12_freightOf_49 : decode cX12_freightOf 49 = .ok (.aload_n 0, 1) := by decide +kernel
theorem dX12_freightOf_50 : decode cX12_freightOf 50 = .ok (.getfield 250, 3) := by decide +kernel
theorem dX12_freightOf_53 : decode cX12_freightOf 53 = .ok (.l2i, 1) := by decide +kernel
theorem dX12_freightOf_54 : decode cX12_freightOf 54 = .ok (.istore 7, 2) := by decide +kernel
theorem dX12_freightOf_56 : decode cX12_freightOf 56 = .ok (.iload 7, 2) := by decide +kernel
theorem dX12_freightOf_58 : decode cX12_freightOf 58 = .ok (.ifCond .le 338, 3) := by decide +kernel
theorem dX12_freightOf_61 : decode cX12_freightOf 61 = .ok (.aload_n 0, 1) := by decide +kernel
theorem dX12_freightOf_62 : decode cX12_freightOf 62 = .ok (.iload_n 1, 1) := by decide +kernel
theorem dX12_freightOf_63 : decode cX12_freightOf 63 = .ok (.iload_n 2, 1) := by decide +kernel
theorem dX12_freightOf_64 : decode cX12_freightOf 64 = .ok (.invokevirtual 257, 3) := by decide +kernel
theorem dX12_freightOf_67 : decode cX12_freightOf 67 = .ok (.iconst (-1), 1) := by decide +kernel
theorem dX12_freightOf_68 : decode cX12_freightOf 68 = .ok (.istore 8, 2) := by decide +kernel
theorem dX12_freightOf_70 : decode cX12_freightOf 70 = .ok (.iconst 0, 1) := by decide +kernel
theorem dX12_freightOf_71 : decode cX12_freightOf 71 = .ok (.istore 9, 2) := by decide +kernel
theorem dX12_freightOf_73 : decode cX12_freightOf 73 = .ok (.iload 9, 2) := by decide +kernel
theorem dX12_freightOf_75 : decode cX12_freightOf 75 = .ok (.aload_n 0, 1) := by decide +kernel
theorem dX12_freightOf_76 : decode cX12_freightOf 76 = .ok (.getfield 18, 3) := by decide +kernel
theorem dX12_freightOf_79 : decode cX12_freightOf 79 = .ok (.iload_n 2, 1) := by decide +kernel
theorem dX12_freightOf_80 : decode cX12_freightOf 80 = .ok (.iaload, 1) := by decide +kernel
theorem dX12_freightOf_81 : decode cX12_freightOf 81 = .ok (.if_icmp .ge 58, 3) := by decide +kernel
theorem dX12_freightOf_84 : decode cX12_freightOf 84 = .ok (.aload_n 0, 1) := by decide +kernel
theorem dX12_freightOf_85 : decode cX12_freightOf 85 = .ok (.getfield 68, 3) := by decide +kernel
theorem dX12_freightOf_88 : decode cX12_freightOf 88 = .ok (.iload 9, 2) := by decide +kernel
theorem dX12_freightOf_90 : decode cX12_freightOf 90 = .ok (.iaload, 1) := by decide +kernel
theorem dX12_freightOf_91 : decode cX12_freightOf 91 = .ok (.ifCond .le 38, 3) := by decide +kernel
theorem dX12_freightOf_94 : decode cX12_freightOf 94 = .ok (.iload 8, 2) := by decide +kernel
theorem dX12_freightOf_96 : decode cX12_freightOf 96 = .ok (.iconst (-1), 1) := by decide +kernel
theorem dX12_freightOf_97 : decode cX12_freightOf 97 = .ok (.if_icmp .eq 27, 3) := by decide +kernel
theorem dX12_freightOf_100 : decode cX12_freightOf 100 = .ok (.aload_n 0, 1) := by decide +kernel
theorem dX12_freightOf_101 : decode cX12_freightOf 101 = .ok (.getfield 78, 3) := by decide +kernel
theorem dX12_freightOf_104 : decode cX12_freightOf 104 = .ok (.bipush 24, 2) := by decide +kernel
theorem dX12_freightOf_106 : decode cX12_freightOf 106 = .ok (.iload 9, 2) := by decide +kernel
theorem dX12_freightOf_108 : decode cX12_freightOf 108 = .ok (.iadd, 1) := by decide +kernel
theorem dX12_freightOf_109 : decode cX12_freightOf 109 = .ok (.laload, 1) := by decide +kernel
theorem dX12_freightOf_110 : decode cX12_freightOf 110 = .ok (.aload_n 0, 1) := by decide +kernel
theorem dX12_freightOf_111 : decode cX12_freightOf 111 = .ok (.getfield 78, 3) := by decide +kernel
theorem dX12_freightOf_114 : decode cX12_freightOf 114 = .ok (.bipush 24, 2) := by decide +kernel
theorem dX12_freightOf_116 : decode cX12_freightOf 116 = .ok (.iload 8, 2) := by decide +kernel
theorem dX12_freightOf_118 : decode cX12_freightOf 118 = .ok (.iadd, 1) := by decide +kernel
theorem dX12_freightOf_119 : decode cX12_freightOf 119 = .ok (.laload, 1) := by decide +kernel
theorem dX12_freightOf_120 : decode cX12_freightOf 120 = .ok (.lcmp, 1) := by decide +kernel
theorem dX12_freightOf_121 : decode cX12_freightOf 121 = .ok (.ifCond .ge 8, 3) := by decide +kernel
theorem dX12_freightOf_124 : decode cX12_freightOf 124 = .ok (.iload 9, 2) := by decide +kernel
theorem dX12_freightOf_126 : decode cX12_freightOf 126 = .ok (.goto 5, 3) := by decide +kernel
theorem dX12_freightOf_129 : decode cX12_freightOf 129 = .ok (.iload 8, 2) := by decide +kernel
theorem dX12_freightOf_131 : decode cX12_freightOf 131 = .ok (.istore 8, 2) := by decide +kernel
theorem dX12_freightOf_133 : decode cX12_freightOf 133 = .ok (.iinc 9 1, 3) := by decide +kernel
theorem dX12_freightOf_136 : decode cX12_freightOf 136 = .ok (.goto (-63), 3) := by decide +kernel
theorem dX12_freightOf_139 : decode cX12_freightOf 139 = .ok (.iload 7, 2) := by decide +kernel
theorem dX12_freightOf_141 : decode cX12_freightOf 141 = .ok (.aload_n 0, 1) := by decide +kernel
theorem dX12_freightOf_142 : decode cX12_freightOf 142 = .ok (.getfield 68, 3) := by decide +kernel
theorem dX12_freightOf_145 : decode cX12_freightOf 145 = .ok (.iload 8, 2) := by decide +kernel
theorem dX12_freightOf_147 : decode cX12_freightOf 147 = .ok (.iaload, 1) := by decide +kernel
theorem dX12_freightOf_148 : decode cX12_freightOf 148 = .ok (.invokestatic 226, 3) := by decide +kernel
theorem dX12_freightOf_151 : decode cX12_freightOf 151 = .ok (.istore 9, 2) := by decide +kernel
theorem dX12_freightOf_153 : decode cX12_freightOf 153 = .ok (.iload 8, 2) := by decide +kernel
theorem dX12_freightOf_155 : decode cX12_freightOf 155 = .ok (.istore 10, 2) := by decide +kernel
theorem dX12_freightOf_157 : decode cX12_freightOf 157 = .ok (.aload_n 0, 1) := by decide +kernel
theorem dX12_freightOf_158 : decode cX12_freightOf 158 = .ok (.getfield 81, 3) := by decide +kernel
theorem dX12_freightOf_161 : decode cX12_freightOf 161 = .ok (.bipush 24, 2) := by decide +kernel
theorem dX12_freightOf_163 : decode cX12_freightOf 163 = .ok (.iload 10, 2) := by decide +kernel
theorem dX12_freightOf_165 : decode cX12_freightOf 165 = .ok (.iadd, 1) := by decide +kernel
theorem dX12_freightOf_166 : decode cX12_freightOf 166 = .ok (.iaload, 1) := by decide +kernel
theorem dX12_freightOf_167 : decode cX12_freightOf 167 = .ok (.istore 11, 2) := by decide +kernel
theorem dX12_freightOf_169 : decode cX12_freightOf 169 = .ok (.aload_n 0, 1) := by decide +kernel
theorem dX12_freightOf_170 : decode cX12_freightOf 170 = .ok (.getfield 81, 3) := by decide +kernel
theorem dX12_freightOf_173 : decode cX12_freightOf 173 = .ok (.iload 11, 2) := by decide +kernel
theorem dX12_freightOf_175 : decode cX12_freightOf 175 = .ok (.iaload, 1) := by decide +kernel
theorem dX12_freightOf_176 : decode cX12_freightOf 176 = .ok (.iconst (-1), 1) := by decide +kernel
theorem dX12_freightOf_177 : decode cX12_freightOf 177 = .ok (.if_icmp .eq 47, 3) := by decide +kernel
theorem dX12_freightOf_180 : decode cX12_freightOf 180 = .ok (.aload_n 0, 1) := by decide +kernel
theorem dX12_freightOf_181 : decode cX12_freightOf 181 = .ok (.getfield 81, 3) := by decide +kernel
theorem dX12_freightOf_184 : decode cX12_freightOf 184 = .ok (.iload 11, 2) := by decide +kernel
theorem dX12_freightOf_186 : decode cX12_freightOf 186 = .ok (.iaload, 1) := by decide +kernel
theorem dX12_freightOf_187 : decode cX12_freightOf 187 = .ok (.istore 12, 2) := by decide +kernel
theorem dX12_freightOf_189 : decode cX12_freightOf 189 = .ok (.iload 9, 2) := by decide +kernel
theorem dX12_freightOf_191 : decode cX12_freightOf 191 = .ok (.aload_n 0, 1) := by decide +kernel
theorem dX12_freightOf_192 : decode cX12_freightOf 192 = .ok (.getfield 71, 3) := by decide +kernel
theorem dX12_freightOf_195 : decode cX12_freightOf 195 = .ok (.bipush 24, 2) := by decide +kernel
theorem dX12_freightOf_197 : decode cX12_freightOf 197 = .ok (.iload 11, 2) := by decide +kernel
theorem dX12_freightOf_199 : decode cX12_freightOf 199 = .ok (.imul, 1) := by decide +kernel
theorem dX12_freightOf_200 : decode cX12_freightOf 200 = .ok (.iload 12, 2) := by decide +kernel
theorem dX12_freightOf_202 : decode cX12_freightOf 202 = .ok (.iadd, 1) := by decide +kernel
theorem dX12_freightOf_203 : decode cX12_freightOf 203 = .ok (.iaload, 1) := by decide +kernel
theorem dX12_freightOf_204 : decode cX12_freightOf 204 = .ok (.invokestatic 226, 3) := by decide +kernel
theorem dX12_freightOf_207 : decode cX12_freightOf 207 = .ok (.istore 9, 2) := by decide +kernel
theorem dX12_freightOf_209 : decode cX12_freightOf 209 = .ok (.aload_n 0, 1) := by decide +kernel
theorem dX12_freightOf_210 : decode cX12_freightOf 210 = .ok (.getfield 81, 3) := by decide +kernel
theorem dX12_freightOf_213 : decode cX12_freightOf 213 = .ok (.bipush 24, 2) := by decide +kernel
theorem dX12_freightOf_215 : decode cX12_freightOf 215 = .ok (.iload 12, 2) := by decide +kernel
theorem dX12_freightOf_217 : decode cX12_freightOf 217 = .ok (.iadd, 1) := by decide +kernel
theorem dX12_freightOf_218 : decode cX12_freightOf 218 = .ok (.iaload, 1) := by decide +kernel
theorem dX12_freightOf_219 : decode cX12_freightOf 219 = .ok (.istore 11, 2) := by decide +kernel
theorem dX12_freightOf_221 : decode cX12_freightOf 221 = .ok (.goto (-52), 3) := by decide +kernel
theorem dX12_freightOf_224 : decode cX12_freightOf 224 = .ok (.iload 9, 2) := by decide +kernel
theorem dX12_freightOf_226 : decode cX12_freightOf 226 = .ok (.aload_n 0, 1) := by decide +kernel
theorem dX12_freightOf_227 : decode cX12_freightOf 227 = .ok (.getfield 65, 3) := by decide +kernel
theorem dX12_freightOf_230 : decode cX12_freightOf 230 = .ok (.iload 11, 2) := by decide +kernel
theorem dX12_freightOf_232 : decode cX12_freightOf 232 = .ok (.iaload, 1) := by decide +kernel
theorem dX12_freightOf_233 : decode cX12_freightOf 233 = .ok (.invokestatic 226, 3) := by decide +kernel
theorem dX12_freightOf_236 : decode cX12_freightOf 236 = .ok (.istore 9, 2) := by decide +kernel
theorem dX12_freightOf_238 : decode cX12_freightOf 238 = .ok (.aload_n 0, 1) := by decide +kernel
theorem dX12_freightOf_239 : decode cX12_freightOf 239 = .ok (.getfield 65, 3) := by decide +kernel
theorem dX12_freightOf_242 : decode cX12_freightOf 242 = .ok (.iload 11, 2) := by decide +kernel
theorem dX12_freightOf_244 : decode cX12_freightOf 244 = .ok (.dup2, 1) := by decide +kernel
theorem dX12_freightOf_245 : decode cX12_freightOf 245 = .ok (.iaload, 1) := by decide +kernel
theorem dX12_freightOf_246 : decode cX12_freightOf 246 = .ok (.iload 9, 2) := by decide +kernel
theorem dX12_freightOf_248 : decode cX12_freightOf 248 = .ok (.isub, 1) := by decide +kernel
theorem dX12_freightOf_249 : decode cX12_freightOf 249 = .ok (.iastore, 1) := by decide +kernel
theorem dX12_freightOf_250 : decode cX12_freightOf 250 = .ok (.aload_n 0, 1) := by decide +kernel
theorem dX12_freightOf_251 : decode cX12_freightOf 251 = .ok (.getfield 68, 3) := by decide +kernel
theorem dX12_freightOf_254 : decode cX12_freightOf 254 = .ok (.iload 8, 2) := by decide +kernel
theorem dX12_freightOf_256 : decode cX12_freightOf 256 = .ok (.dup2, 1) := by decide +kernel
theorem dX12_freightOf_257 : decode cX12_freightOf 257 = .ok (.iaload, 1) := by decide +kernel
theorem dX12_freightOf_258 : decode cX12_freightOf 258 = .ok (.iload 9, 2) := by decide +kernel
theorem dX12_freightOf_260 : decode cX12_freightOf 260 = .ok (.isub, 1) := by decide +kernel
theorem dX12_freightOf_261 : decode cX12_freightOf 261 = .ok (.iastore, 1) := by decide +kernel
theorem dX12_freightOf_262 : decode cX12_freightOf 262 = .ok (.iload 7, 2) := by decide +kernel
theorem dX12_freightOf_264 : decode cX12_freightOf 264 = .ok (.iload 9, 2) := by decide +kernel
theorem dX12_freightOf_266 : decode cX12_freightOf 266 = .ok (.isub, 1) := by decide +kernel
theorem dX12_freightOf_267 : decode cX12_freightOf 267 = .ok (.istore 7, 2) := by decide +kernel
theorem dX12_freightOf_269 : decode cX12_freightOf 269 = .ok (.lload 5, 2) := by decide +kernel
theorem dX12_freightOf_271 : decode cX12_freightOf 271 = .ok (.iload 9, 2) := by decide +kernel
theorem dX12_freightOf_273 : decode cX12_freightOf 273 = .ok (.i2l, 1) := by decide +kernel
theorem dX12_freightOf_274 : decode cX12_freightOf 274 = .ok (.aload_n 0, 1) := by decide +kernel
theorem dX12_freightOf_275 : decode cX12_freightOf 275 = .ok (.getfield 78, 3) := by decide +kernel
theorem dX12_freightOf_278 : decode cX12_freightOf 278 = .ok (.bipush 24, 2) := by decide +kernel
theorem dX12_freightOf_280 : decode cX12_freightOf 280 = .ok (.iload 8, 2) := by decide +kernel
theorem dX12_freightOf_282 : decode cX12_freightOf 282 = .ok (.iadd, 1) := by decide +kernel
theorem dX12_freightOf_283 : decode cX12_freightOf 283 = .ok (.laload, 1) := by decide +kernel
theorem dX12_freightOf_284 : decode cX12_freightOf 284 = .ok (.lmul, 1) := by decide +kernel
theorem dX12_freightOf_285 : decode cX12_freightOf 285 = .ok (.ladd, 1) := by decide +kernel
theorem dX12_freightOf_286 : decode cX12_freightOf 286 = .ok (.lstore 5, 2) := by decide +kernel
theorem dX12_freightOf_288 : decode cX12_freightOf 288 = .ok (.iload 8, 2) := by decide +kernel
theorem dX12_freightOf_290 : decode cX12_freightOf 290 = .ok (.istore 10, 2) := by decide +kernel
theorem dX12_freightOf_292 : decode cX12_freightOf 292 = .ok (.aload_n 0, 1) := by decide +kernel
theorem dX12_freightOf_293 : decode cX12_freightOf 293 = .ok (.getfield 81, 3) := by decide +kernel
theorem dX12_freightOf_296 : decode cX12_freightOf 296 = .ok (.bipush 24, 2) := by decide +kernel
theorem dX12_freightOf_298 : decode cX12_freightOf 298 = .ok (.iload 10, 2) := by decide +kernel
theorem dX12_freightOf_300 : decode cX12_freightOf 300 = .ok (.iadd, 1) := by decide +kernel
theorem dX12_freightOf_301 : decode cX12_freightOf 301 = .ok (.iaload, 1) := by decide +kernel
theorem dX12_freightOf_302 : decode cX12_freightOf 302 = .ok (.istore 11, 2) := by decide +kernel
theorem dX12_freightOf_304 : decode cX12_freightOf 304 = .ok (.aload_n 0, 1) := by decide +kernel
theorem dX12_freightOf_305 : decode cX12_freightOf 305 = .ok (.getfield 71, 3) := by decide +kernel
theorem dX12_freightOf_308 : decode cX12_freightOf 308 = .ok (.bipush 24, 2) := by decide +kernel
theorem dX12_freightOf_310 : decode cX12_freightOf 310 = .ok (.iload 11, 2) := by decide +kernel
theorem dX12_freightOf_312 : decode cX12_freightOf 312 = .ok (.imul, 1) := by decide +kernel
theorem dX12_freightOf_313 : decode cX12_freightOf 313 = .ok (.iload 10, 2) := by decide +kernel
theorem dX12_freightOf_315 : decode cX12_freightOf 315 = .ok (.iadd, 1) := by decide +kernel
theorem dX12_freightOf_316 : decode cX12_freightOf 316 = .ok (.dup2, 1) := by decide +kernel
theorem dX12_freightOf_317 : decode cX12_freightOf 317 = .ok (.iaload, 1) := by decide +kernel
theorem dX12_freightOf_318 : decode cX12_freightOf 318 = .ok (.iload 9, 2) := by decide +kernel
theorem dX12_freightOf_320 : decode cX12_freightOf 320 = .ok (.iadd, 1) := by decide +kernel
theorem dX12_freightOf_321 : decode cX12_freightOf 321 = .ok (.iastore, 1) := by decide +kernel
theorem dX12_freightOf_322 : decode cX12_freightOf 322 = .ok (.aload_n 0, 1) := by decide +kernel
theorem dX12_freightOf_323 : decode cX12_freightOf 323 = .ok (.getfield 81, 3) := by decide +kernel
theorem dX12_freightOf_326 : decode cX12_freightOf 326 = .ok (.iload 11, 2) := by decide +kernel
theorem dX12_freightOf_328 : decode cX12_freightOf 328 = .ok (.iaload, 1) := by decide +kernel
theorem dX12_freightOf_329 : decode cX12_freightOf 329 = .ok (.iconst (-1), 1) := by decide +kernel
theorem dX12_freightOf_330 : decode cX12_freightOf 330 = .ok (.if_icmp .eq 63, 3) := by decide +kernel
theorem dX12_freightOf_333 : decode cX12_freightOf 333 = .ok (.aload_n 0, 1) := by decide +kernel
theorem dX12_freightOf_334 : decode cX12_freightOf 334 = .ok (.getfield 81, 3) := by decide +kernel
theorem dX12_freightOf_337 : decode cX12_freightOf 337 = .ok (.iload 11, 2) := by decide +kernel
theorem dX12_freightOf_339 : decode cX12_freightOf 339 = .ok (.iaload, 1) := by decide +kernel
theorem dX12_freightOf_340 : decode cX12_freightOf 340 = .ok (.istore 12, 2) := by decide +kernel
theorem dX12_freightOf_342 : decode cX12_freightOf 342 = .ok (.aload_n 0, 1) := by decide +kernel
theorem dX12_freightOf_343 : decode cX12_freightOf 343 = .ok (.getfield 71, 3) := by decide +kernel
theorem dX12_freightOf_346 : decode cX12_freightOf 346 = .ok (.bipush 24, 2) := by decide +kernel
theorem dX12_freightOf_348 : decode cX12_freightOf 348 = .ok (.iload 11, 2) := by decide +kernel
theorem dX12_freightOf_350 : decode cX12_freightOf 350 = .ok (.imul, 1) := by decide +kernel
theorem dX12_freightOf_351 : decode cX12_freightOf 351 = .ok (.iload 12, 2) := by decide +kernel
theorem dX12_freightOf_353 : decode cX12_freightOf 353 = .ok (.iadd, 1) := by decide +kernel
theorem dX12_freightOf_354 : decode cX12_freightOf 354 = .ok (.dup2, 1) := by decide +kernel
theorem dX12_freightOf_355 : decode cX12_freightOf 355 = .ok (.iaload, 1) := by decide +kernel
theorem dX12_freightOf_356 : decode cX12_freightOf 356 = .ok (.iload 9, 2) := by decide +kernel
theorem dX12_freightOf_358 : decode cX12_freightOf 358 = .ok (.isub, 1) := by decide +kernel
theorem dX12_freightOf_359 : decode cX12_freightOf 359 = .ok (.iastore, 1) := by decide +kernel
theorem dX12_freightOf_360 : decode cX12_freightOf 360 = .ok (.aload_n 0, 1) := by decide +kernel
theorem dX12_freightOf_361 : decode cX12_freightOf 361 = .ok (.getfield 81, 3) := by decide +kernel
theorem dX12_freightOf_364 : decode cX12_freightOf 364 = .ok (.bipush 24, 2) := by decide +kernel
theorem dX12_freightOf_366 : decode cX12_freightOf 366 = .ok (.iload 12, 2) := by decide +kernel
theorem dX12_freightOf_368 : decode cX12_freightOf 368 = .ok (.iadd, 1) := by decide +kernel
theorem dX12_freightOf_369 : decode cX12_freightOf 369 = .ok (.iaload, 1) := by decide +kernel
theorem dX12_freightOf_370 : decode cX12_freightOf 370 = .ok (.istore 11, 2) := by decide +kernel
theorem dX12_freightOf_372 : decode cX12_freightOf 372 = .ok (.aload_n 0, 1) := by decide +kernel
theorem dX12_freightOf_373 : decode cX12_freightOf 373 = .ok (.getfield 71, 3) := by decide +kernel
theorem dX12_freightOf_376 : decode cX12_freightOf 376 = .ok (.bipush 24, 2) := by decide +kernel
theorem dX12_freightOf_378 : decode cX12_freightOf 378 = .ok (.iload 11, 2) := by decide +kernel
theorem dX12_freightOf_380 : decode cX12_freightOf 380 = .ok (.imul, 1) := by decide +kernel
theorem dX12_freightOf_381 : decode cX12_freightOf 381 = .ok (.iload 12, 2) := by decide +kernel
theorem dX12_freightOf_383 : decode cX12_freightOf 383 = .ok (.iadd, 1) := by decide +kernel
theorem dX12_freightOf_384 : decode cX12_freightOf 384 = .ok (.dup2, 1) := by decide +kernel
theorem dX12_freightOf_385 : decode cX12_freightOf 385 = .ok (.iaload, 1) := by decide +kernel
theorem dX12_freightOf_386 : decode cX12_freightOf 386 = .ok (.iload 9, 2) := by decide +kernel
theorem dX12_freightOf_388 : decode cX12_freightOf 388 = .ok (.iadd, 1) := by decide +kernel
theorem dX12_freightOf_389 : decode cX12_freightOf 389 = .ok (.iastore, 1) := by decide +kernel
theorem dX12_freightOf_390 : decode cX12_freightOf 390 = .ok (.goto (-68), 3) := by decide +kernel
theorem dX12_freightOf_393 : decode cX12_freightOf 393 = .ok (.goto (-337), 3) := by decide +kernel
theorem dX12_freightOf_396 : decode cX12_freightOf 396 = .ok (.lload 5, 2) := by decide +kernel
theorem dX12_freightOf_398 : decode cX12_freightOf 398 = .ok (.lreturn, 1) := by decide +kernel
set_option maxRecDepth 20000 in
theorem ggX12_freight_X12_isTune : GoodIn wsX12_freight wsX12_isTune := goodIn_r _ [6, 7, 8, 44, 45, 46, 47, 48, 49, 50, 51, 52, 53, 54, 55, 56, 57, 58, 59, 60, 61, 62, 63, 64, 65, 66, 67, 68, 69, 70, 71, 72, 73, 74, 75, 76, 77, 78, 79, 80, 81, 82, 83, 84] (by decide +kernel) (by decide +kernel)
set_option maxRecDepth 20000 in
theorem gX12_freight_X12_isTune : GoodIn wsX12_freight (wsV RX12 93 RX12 yX12_isTune wsX12_isTune) := goodIn_app (goodIn_of _ (by decide +kernel)) ggX12_freight_X12_isTune
set_option maxRecDepth 20000 in
theorem ggX12_freight_X12_freightOf : GoodIn wsX12_freight wsX12_freightOf := goodIn_r _ [12, 13, 14, 15, 16, 17, 18, 19, 20, 21, 22, 23, 24, 25, 26, 27, 28, 29, 30, 5, 31, 32, 33, 34, 35, 36, 37, 38, 39, 40, 41, 42, 43, 44, 45, 46, 47, 48, 49, 50, 51, 52, 53, 54, 55, 56, 57, 58, 59, 60, 61, 62, 63, 64, 65, 66, 67, 68, 69, 70, 71, 72, 73, 74, 75, 76, 77, 78, 79, 80, 81, 82, 83, 84] (by decide +kernel) (by decide +kernel)
set_option maxRecDepth 20000 in
theorem gX12_freight_X12_freightOf : GoodIn wsX12_freight (wsV RX12 260 RX12 yX12_freightOf wsX12_freightOf) := goodIn_app (goodIn_of _ (by decide +kernel)) ggX12_freight_X12_freightOf
theorem dX12_freight_0 : decode cX12_freight 0 = .ok (.aload_n 0, 1) := by decide +kernel
theorem dX12_freight_1 : decode cX12_freight 1 = .ok (.iload_n 1, 1) := by decide +kernel
theorem dX12_freight_2 : decode cX12_freight 2 = .ok (.invokevirtual 93, 3) := by decide +kernel
theorem dX12_freight_5 : decode cX12_freight 5 = .ok (.ifCond .eq 20, 3) := by decide +kernel
theorem dX12_freight_8 : decode cX12_freight 8 = .ok (.aload_n 0, 1) := by decide +kernel
theorem dX12_freight_9 : decode cX12_freight 9 = .ok (.iload_n 2, 1) := by decide +kernel
theorem dX12_freight_10 : decode cX12_freight 10 = .ok (.invokevirtual 93, 3) := by decide +kernel
theorem dX12_freight_13 : decode cX12_freight 13 = .ok (.ifCond .eq 12, 3) := by decide +kernel
theorem dX12_freight_16 : decode cX12_freight 16 = .ok (.aload_n 0, 1) := by decide +kernel
theorem dX12_freight_17 : decode cX12_freight 17 = .ok (.iload_n 1, 1) := by decide +kernel
theorem dX12_freight_18 : decode cX12_freight 18 = .ok (.iload_n 2, 1) := by decide +kernel
theorem dX12_freight_19 : decode cX12_freight 19 = .ok (.invokevirtual 260, 3) := by decide +kernel
theorem dX12_freight_22 : decode cX12_freight 22 = .ok (.goto 6, 3) := by decide +kernel
theorem dX12_freight_25 : decode cX12_freight 25 = .ok (.ldc2_w 264, 3) := by decide +kernel
theorem dX12_freight_28 : decode cX12_freight 28 = .ok (.lreturn, 1) := by decide +kernel
set_option maxRecDepth 20000 in
theorem ggX12_share_X12_isTune : GoodIn wsX12_share wsX12_isTune := goodIn_r _ [8, 1, 9, 44, 45, 46, 47, 48, 49, 50, 51, 52, 53, 54, 55, 56, 57, 58, 59, 60, 61, 62, 63, 64, 65, 66, 67, 68, 69, 70, 71, 72, 73, 74, 75, 76, 77, 78, 79, 80, 81, 82, 83, 84] (by decide +kernel) (by decide +kernel)
set_option maxRecDepth 20000 in
theorem gX12_share_X12_isTune : GoodIn wsX12_share (wsV RX12 93 RX12 yX12_isTune wsX12_isTune) := goodIn_app (goodIn_of _ (by decide +kernel)) ggX12_share_X12_isTune
set_option maxRecDepth 20000 in
theorem ggX12_share_X12_freightOf : GoodIn wsX12_share wsX12_freightOf := goodIn_r _ [13, 14, 15, 16, 17, 2, 18, 19, 20, 21, 22, 23, 24, 25, 26, 27, 28, 29, 30, 7, 31, 32, 33, 34, 35, 36, 37, 38, 39, 40, 41, 42, 43, 44, 45, 46, 47, 48, 49, 50, 51, 52, 53, 54, 55, 56, 57, 58, 59, 60, 61, 62, 63, 64, 65, 66, 67, 68, 69, 70, 71, 72, 73, 74, 75, 76, 77, 78, 79, 80, 81, 82, 83, 84] (by decide +kernel) (by decide +kernel)
set_option maxRecDepth 20000 in
theorem gX12_share_X12_freightOf : GoodIn wsX12_share (wsV RX12 260 RX12 yX12_freightOf wsX12_freightOf) := goodIn_app (goodIn_of _ (by decide +kernel)) ggX12_share_X12_freightOf
theorem dX12_share_0 : decode cX12_share 0 = .ok (.aload_n 0, 1) := by decide +kernel
theorem dX12_share_1 : decode cX12_share 1 = .ok (.iload_n 1, 1) := by decide +kernel
theorem dX12_share_2 : decode cX12_share 2 = .ok (.invokevirtual 93, 3) := by decide +kernel
theorem dX12_share_5 : decode cX12_share 5 = .ok (.ifCond .eq 11, 3) := by decide +kernel
theorem dX12_share_8 : decode cX12_share 8 = .ok (.aload_n 0, 1) := by decide +kernel
theorem dX12_share_9 : decode cX12_share 9 = .ok (.iload_n 2, 1) := by decide +kernel
theorem dX12_share_10 : decode cX12_share 10 = .ok (.invokevirtual 93, 3) := by decide +kernel
theorem dX12_share_13 : decode cX12_share 13 = .ok (.ifCond .ne 10, 3) := by decide +kernel
theorem dX12_share_16 : decode cX12_share 16 = .ok (.aload_n 0, 1) := by decide +kernel
theorem dX12_share_17 : decode cX12_share 17 = .ok (.iconst 1, 1) := by decide +kernel
theorem dX12_share_18 : decode cX12_share 18 = .ok (.putfield 87, 3) := by decide +kernel
theorem dX12_share_21 : decode cX12_share 21 = .ok (.lconst 0, 1) := by decide +kernel
theorem dX12_share_22 : decode cX12_share 22 = .ok (.lreturn, 1) := by decide +kernel
theorem dX12_share_23 : decode cX12_share 23 = .ok (.aload_n 0, 1) := by decide +kernel
theorem dX12_share_24 : decode cX12_share 24 = .ok (.iload_n 1, 1) := by decide +kernel
theorem dX12_share_25 : decode cX12_share 25 = .ok (.iload_n 2, 1) := by decide +kernel
theorem dX12_share_26 : decode cX12_share 26 = .ok (.invokevirtual 260, 3) := by decide +kernel
theorem dX12_share_29 : decode cX12_share 29 = .ok (.lstore_n 3, 1) := by decide +kernel
theorem dX12_share_30 : decode cX12_share 30 = .ok (.aload_n 0, 1) := by decide +kernel
theorem dX12_share_31 : decode cX12_share 31 = .ok (.getfield 250, 3) := by decide +kernel
theorem dX12_share_34 : decode cX12_share 34 = .ok (.lconst 0, 1) := by decide +kernel
theorem dX12_share_35 : decode cX12_share 35 = .ok (.lcmp, 1) := by decide +kernel
theorem dX12_share_36 : decode cX12_share 36 = .ok (.ifCond .ne 10, 3) := by decide +kernel
theorem dX12_share_39 : decode cX12_share 39 = .ok (.aload_n 0, 1) := by decide +kernel
theorem dX12_share_40 : decode cX12_share 40 = .ok (.iconst 2, 1) := by decide +kernel
theorem dX12_share_41 : decode cX12_share 41 = .ok (.putfield 87, 3) := by decide +kernel
theorem dX12_share_44 : decode cX12_share 44 = .ok (.lconst 0, 1) := by decide +kernel
theorem dX12_share_45 : decode cX12_share 45 = .ok (.lreturn, 1) := by decide +kernel
theorem dX12_share_46 : decode cX12_share 46 = .ok (.ldc2_w 266, 3) := by decide +kernel
theorem dX12_share_49 : decode cX12_share 49 = .ok (.lload_n 3, 1) := by decide +kernel
theorem dX12_share_50 : decode cX12_share 50 = .ok (.lmul, 1) := by decide +kernel
theorem dX12_share_51 : decode cX12_share 51 = .ok (.aload_n 0, 1) := by decide +kernel
theorem dX12_share_52 : decode cX12_share 52 = .ok (.getfield 250, 3) := by decide +kernel
theorem dX12_share_55 : decode cX12_share 55 = .ok (.ldiv, 1) := by decide +kernel
theorem dX12_share_56 : decode cX12_share 56 = .ok (.lreturn, 1) := by decide +kernel
set_option maxRecDepth 20000 in
theorem ggX12_families_X12_distanceOf : GoodIn wsX12_families wsX12_distanceOf := goodIn_r _ [13, 14, 15, 16, 17, 18, 12, 19, 20, 21, 22, 5, 6, 7, 8, 23, 24, 25, 26, 27, 28, 29, 30, 31, 32, 33, 34, 35, 36, 37, 38, 39, 40, 41, 42, 43, 44, 45, 46, 47, 48, 49, 50, 51, 52, 53, 54, 55, 56, 57, 58, 59, 60, 61, 62, 63, 64, 65, 66, 67, 68, 69, 70, 71] (by decide +kernel) (by decide +kernel)
set_option maxRecDepth 20000 in
theorem gX12_families_X12_distanceOf : GoodIn wsX12_families (wsV RX12 235 RX12 yX12_distanceOf wsX12_distanceOf) := goodIn_app (goodIn_of _ (by decide +kernel)) ggX12_families_X12_distanceOf
theorem dX12_families_0 : decode cX12_families 0 = .ok (.aload_n 0, 1) := by decide +kernel
theorem dX12_families_1 : decode cX12_families 1 = .ok (.iconst 0, 1) := by decide +kernel
theorem dX12_families_2 : decode cX12_families 2 = .ok (.putfield 87, 3) := by decide +kernel
theorem dX12_families_5 : decode cX12_families 5 = .ok (.iload_n 1, 1) := by decide +kernel
theorem dX12_families_6 : decode cX12_families 6 = .ok (.ifCond .ge 6, 3) := by decide +kernel
theorem dX12_families_9 : decode cX12_families 9 = .ok (.bipush (-2), 2) := by decide +kernel
theorem dX12_families_11 : decode cX12_families 11 = .ok (.ireturn, 1) := by decide +kernel
theorem dX12_families_12 : decode cX12_families 12 = .ok (.aload_n 0, 1) := by decide +kernel
theorem dX12_families_13 : decode cX12_families 13 = .ok (.aload_n 0, 1) := by decide +kernel
theorem dX12_families_14 : decode cX12_families 14 = .ok (.getfield 90, 3) := by decide +kernel
theorem dX12_families_17 : decode cX12_families 17 = .ok (.putfield 268, 3) := by decide +kernel
theorem dX12_families_20 : decode cX12_families 20 = .ok (.iconst 0, 1) := by decide +kernel
theorem dX12_families_21 : decode cX12_families 21 = .ok (.istore_n 2, 1) := by decide +kernel
theorem dX12_families_22 : decode cX12_families 22 = .ok (.iload_n 2, 1) := by decide +kernel
theorem dX12_families_23 : decode cX12_families 23 = .ok (.aload_n 0, 1) := by decide +kernel
theorem dX12_families_24 : decode cX12_families 24 = .ok (.getfield 90, 3) := by decide +kernel
theorem dX12_families_27 : decode cX12_families 27 = .ok (.if_icmp .ge 16, 3) := by decide +kernel
theorem dX12_families_30 : decode cX12_families 30 = .ok (.aload_n 0, 1) := by decide +kernel
theorem dX12_families_31 : decode cX12_families 31 = .ok (.getfield 84, 3) := by decide +kernel
theorem dX12_families_34 : decode cX12_families 34 = .ok (.iload_n 2, 1) := by decide +kernel
theorem dX12_families_35 : decode cX12_families 35 = .ok (.iload_n 2, 1) := by decide +kernel
theorem dX12_families_36 : decode cX12_families 36 = .ok (.iastore, 1) := by decide +kernel
theorem dX12_families_37 : decode cX12_families 37 = .ok (.iinc 2 1, 3) := by decide +kernel
theorem dX12_families_40 : decode cX12_families 40 = .ok (.goto (-18), 3) := by decide +kernel
theorem dX12_families_43 : decode cX12_families 43 = .ok (.iconst 0, 1) := by decide +kernel
theorem dX12_families_44 : decode cX12_families 44 = .ok (.istore_n 2, 1) := by decide +kernel
theorem dX12_families_45 : decode cX12_families 45 = .ok (.iload_n 2, 1) := by decide +kernel
theorem dX12_families_46 : decode cX12_families 46 = .ok (.aload_n 0, 1) := by decide +kernel
theorem dX12_families_47 : decode cX12_families 47 = .ok (.getfield 90, 3) := by decide +kernel
theorem dX12_families_50 : decode cX12_families 50 = .ok (.if_icmp .ge 150, 3) := by decide +kernel
theorem dX12_families_53 : decode cX12_families 53 = .ok (.iconst 0, 1) := by decide +kernel
theorem dX12_families_54 : decode cX12_families 54 = .ok (.istore_n 3, 1) := by decide +kernel
theorem dX12_families_55 : decode cX12_families 55 = .ok (.iload_n 3, 1) := by decide +kernel
theorem dX12_families_56 : decode cX12_families 56 = .ok (.aload_n 0, 1) := by decide +kernel
theorem dX12_families_57 : decode cX12_families 57 = .ok (.getfield 90, 3) := by decide +kernel
theorem dX12_families_60 : decode cX12_families 60 = .ok (.if_icmp .ge 134, 3) := by decide +kernel
theorem dX12_families_63 : decode cX12_families 63 = .ok (.iconst 0, 1) := by decide +kernel
theorem dX12_families_64 : decode cX12_families 64 = .ok (.istore 4, 2) := by decide +kernel
theorem dX12_families_66 : decode cX12_families 66 = .ok (.iload 4, 2) := by decide +kernel
theorem dX12_families_68 : decode cX12_families 68 = .ok (.iload_n 3, 1) := by decide +kernel
theorem dX12_families_69 : decode cX12_families 69 = .ok (.if_icmp .ge 119, 3) := by decide +kernel
theorem dX12_families_72 : decode cX12_families 72 = .ok (.aload_n 0, 1) := by decide +kernel
theorem dX12_families_73 : decode cX12_families 73 = .ok (.getfield 84, 3) := by decide +kernel
theorem dX12_families_76 : decode cX12_families 76 = .ok (.iload_n 3, 1) := by decide +kernel
theorem dX12_families_77 : decode cX12_families 77 = .ok (.iaload, 1) := by decide +kernel
theorem dX12_families_78 : decode cX12_families 78 = .ok (.aload_n 0, 1) := by decide +kernel
theorem dX12_families_79 : decode cX12_families 79 = .ok (.getfield 84, 3) := by decide +kernel
theorem dX12_families_82 : decode cX12_families 82 = .ok (.iload 4, 2) := by decide +kernel
theorem dX12_families_84 : decode cX12_families 84 = .ok (.iaload, 1) := by decide +kernel
theorem dX12_families_85 : decode cX12_families 85 = .ok (.if_icmp .eq 30, 3) := by decide +kernel
theorem dX12_families_88 : decode cX12_families 88 = .ok (.aload_n 0, 1) := by decide +kernel
theorem dX12_families_89 : decode cX12_families 89 = .ok (.iload_n 3, 1) := by decide +kernel
theorem dX12_families_90 : decode cX12_families 90 = .ok (.iload 4, 2) := by decide +kernel
theorem dX12_families_92 : decode cX12_families 92 = .ok (.iconst 0, 1) := by decide +kernel
theorem dX12_families_93 : decode cX12_families 93 = .ok (.invokevirtual 235, 3) := by decide +kernel
theorem dX12_families_96 : decode cX12_families 96 = .ok (.aload_n 0, 1) := by decide +kernel
theorem dX12_families_97 : decode cX12_families 97 = .ok (.iload 4, 2) := by decide +kernel
theorem dX12_families_99 : decode cX12_families 99 = .ok (.iload_n 3, 1) := by decide +kernel
theorem dX12_families_100 : decode cX12_families 100 = .ok (.iconst 0, 1) := by decide +kernel
theorem dX12_families_101 : decode cX12_families 101 = .ok (.invokevirtual 235, 3) := by decide +kernel
theorem dX12_families_104 : decode cX12_families 104 = .ok (.invokestatic 226, 3) := by decide +kernel
theorem dX12_families_107 : decode cX12_families 107 = .ok (.iload_n 1, 1) := by decide +kernel
theorem dX12_families_108 : decode cX12_families 108 = .ok (.if_icmp .gt 7, 3) := by decide +kernel
theorem dX12_families_111 : decode cX12_families 111 = .ok (.iconst 1, 1) := by decide +kernel
theorem dX12_families_112 : decode cX12_families 112 = .ok (.goto 4, 3) := by decide +kernel
theorem dX12_families_115 : decode cX12_families 115 = .ok (.iconst 0, 1) := by decide +kernel
theorem dX12_families_116 : decode cX12_families 116 = .ok (.istore 5, 2) := by decide +kernel
theorem dX12_families_118 : decode cX12_families 118 = .ok (.aload_n 0, 1) := by decide +kernel
theorem dX12_families_119 : decode cX12_families 119 = .ok (.getfield 84, 3) := by decide +kernel
theorem dX12_families_122 : decode cX12_families 122 = .ok (.iload_n 3, 1) := by decide +kernel
theorem dX12_families_123 : decode cX12_families 123 = .ok (.iaload, 1) := by decide +kernel
theorem dX12_families_124 : decode cX12_families 124 = .ok (.aload_n 0, 1) := by decide +kernel
theorem dX12_families_125 : decode cX12_families 125 = .ok (.getfield 84, 3) := by decide +kernel
theorem dX12_families_128 : decode cX12_families 128 = .ok (.iload 4, 2) := by decide +kernel
theorem dX12_families_130 : decode cX12_families 130 = .ok (.iaload, 1) := by decide +kernel
theorem dX12_families_131 : decode cX12_families 131 = .ok (.invokestatic 226, 3) := by decide +kernel
theorem dX12_families_134 : decode cX12_families 134 = .ok (.istore 6, 2) := by decide +kernel
theorem dX12_families_136 : decode cX12_families 136 = .ok (.aload_n 0, 1) := by decide +kernel
theorem dX12_families_137 : decode cX12_families 137 = .ok (.getfield 84, 3) := by decide +kernel
theorem dX12_families_140 : decode cX12_families 140 = .ok (.iload_n 3, 1) := by decide +kernel
theorem dX12_families_141 : decode cX12_families 141 = .ok (.iload 5, 2) := by decide +kernel
theorem dX12_families_143 : decode cX12_families 143 = .ok (.ifCond .eq 8, 3) := by decide +kernel
theorem dX12_families_146 : decode cX12_families 146 = .ok (.iload 6, 2) := by decide +kernel
theorem dX12_families_148 : decode cX12_families 148 = .ok (.goto 9, 3) := by decide +kernel
theorem dX12_families_151 : decode cX12_families 151 = .ok (.aload_n 0, 1) := by decide +kernel
theorem dX12_families_152 : decode cX12_families 152 = .ok (.getfield 84, 3) := by decide +kernel
theorem dX12_families_155 : decode cX12_families 155 = .ok (.iload_n 3, 1) := by decide +kernel
theorem dX12_families_156 : decode cX12_families 156 = .ok (.iaload, 1) := by decide +kernel
theorem dX12_families_157 : decode cX12_families 157 = .ok (.iastore, 1) := by decide +kernel
theorem dX12_families_158 : decode cX12_families 158 = .ok (.aload_n 0, 1) := by decide +kernel
theorem dX12_families_159 : decode cX12_families 159 = .ok (.getfield 84, 3) := by decide +kernel
theorem dX12_families_162 : decode cX12_families 162 = .ok (.iload 4, 2) := by decide +kernel
theorem dX12_families_164 : decode cX12_families 164 = .ok (.iload 5, 2) := by decide +kernel
theorem dX12_families_166 : decode cX12_families 166 = .ok (.ifCond .eq 8, 3) := by decide +kernel
theorem dX12_families_169 : decode cX12_families 169 = .ok (.iload 6, 2) := by decide +kernel
theorem dX12_families_171 : decode cX12_families 171 = .ok (.goto 10, 3) := by decide +kernel
theorem dX12_families_174 : decode cX12_families 174 = .ok (.aload_n 0, 1) := by decide +kernel
theorem dX12_families_175 : decode cX12_families 175 = .ok (.getfield 84, 3) := by decide +kernel
theorem dX12_families_178 : decode cX12_families 178 = .ok (.iload 4, 2) := by decide +kernel
theorem dX12_families_180 : decode cX12_families 180 = .ok (.iaload, 1) := by decide +kernel
theorem dX12_families_181 : decode cX12_families 181 = .ok (.iastore, 1) := by decide +kernel
theorem dX12_families_182 : decode cX12_families 182 = .ok (.iinc 4 1, 3) := by decide +kernel
theorem dX12_families_185 : decode cX12_families 185 = .ok (.goto (-119), 3) := by decide +kernel
theorem dX12_families_188 : decode cX12_families 188 = .ok (.iinc 3 1, 3) := by decide +kernel
theorem dX12_families_191 : decode cX12_families 191 = .ok (.goto (-136), 3) := by decide +kernel
theorem dX12_families_194 : decode cX12_families 194 = .ok (.iinc 2 1, 3) := by decide +kernel
theorem dX12_families_197 : decode cX12_families 197 = .ok (.goto (-152), 3) := by decide +kernel
theorem dX12_families_200 : decode cX12_families 200 = .ok (.iconst 0, 1) := by decide +kernel
theorem dX12_families_201 : decode cX12_families 201 = .ok (.istore_n 2, 1) := by decide +kernel
theorem dX12_families_202 : decode cX12_families 202 = .ok (.iconst 0, 1) := by decide +kernel
theorem dX12_families_203 : decode cX12_families 203 = .ok (.istore_n 3, 1) := by decide +kernel
theorem dX12_families_204 : decode cX12_families 204 = .ok (.iload_n 3, 1) := by decide +kernel
theorem dX12_families_205 : decode cX12_families 205 = .ok (.aload_n 0, 1) := by decide +kernel
theorem dX12_families_206 : decode cX12_families 206 = .ok (.getfield 90, 3) := by decide +kernel
theorem dX12_families_209 : decode cX12_families 209 = .ok (.if_icmp .ge 27, 3) := by decide +kernel
theorem dX12_families_212 : decode cX12_families 212 = .ok (.iload_n 2, 1) := by decide +kernel
theorem dX12_families_213 : decode cX12_families 213 = .ok (.aload_n 0, 1) := by decide +kernel
theorem dX12_families_214 : decode cX12_families 214 = .ok (.getfield 84, 3) := by decide +kernel
theorem dX12_families_217 : decode cX12_families 217 = .ok (.iload_n 3, 1) := by decide +kernel
theorem dX12_families_218 : decode cX12_families 218 = .ok (.iaload, 1) := by decide +kernel
theorem dX12_families_219 : decode cX12_families 219 = .ok (.iload_n 3, 1) := by decide +kernel
theorem dX12_families_220 : decode cX12_families 220 = .ok (.if_icmp .ne 7, 3) := by decide +kernel
theorem dX12_families_223 : decode cX12_families 223 = .ok (.iconst 1, 1) := by decide +kernel
theorem dX12_families_224 : decode cX12_families 224 = .ok (.goto 4, 3) := by decide +kernel
theorem dX12_families_227 : decode cX12_families 227 = .ok (.iconst 0, 1) := by decide +kernel
theorem dX12_families_228 : decode cX12_families 228 = .ok (.iadd, 1) := by decide +kernel
theorem dX12_families_229 : decode cX12_families 229 = .ok (.istore_n 2, 1) := by decide +kernel
theorem dX12_families_230 : decode cX12_families 230 = .ok (.iinc 3 1, 3) := by decide +kernel
theorem dX12_families_233 : decode cX12_families 233 = .ok (.goto (-29), 3) := by decide +kernel
theorem dX12_families_236 : decode cX12_families 236 = .ok (.iload_n 2, 1) := by decide +kernel
theorem dX12_families_237 : decode cX12_families 237 = .ok (.ireturn, 1) := by decide +kernel
theorem dX12_family_0 : decode cX12_family 0 = .ok (.aload_n 0, 1) := by decide +kernel
theorem dX12_family_1 : decode cX12_family 1 = .ok (.iconst 0, 1) := by decide +kernel
theorem dX12_family_2 : decode cX12_family 2 = .ok (.putfield 87, 3) := by decide +kernel
theorem dX12_family_5 : decode cX12_family 5 = .ok (.iload_n 1, 1) := by decide +kernel
theorem dX12_family_6 : decode cX12_family 6 = .ok (.ifCond .lt 20, 3) := by decide +kernel
theorem dX12_family_9 : decode cX12_family 9 = .ok (.iload_n 1, 1) := by decide +kernel
theorem dX12_family_10 : decode cX12_family 10 = .ok (.aload_n 0, 1) := by decide +kernel
theorem dX12_family_11 : decode cX12_family 11 = .ok (.getfield 268, 3) := by decide +kernel
theorem dX12_family_14 : decode cX12_family 14 = .ok (.if_icmp .ge 12, 3) := by decide +kernel
theorem dX12_family_17 : decode cX12_family 17 = .ok (.aload_n 0, 1) := by decide +kernel
theorem dX12_family_18 : decode cX12_family 18 = .ok (.getfield 84, 3) := by decide +kernel
theorem dX12_family_21 : decode cX12_family 21 = .ok (.iload_n 1, 1) := by decide +kernel
theorem dX12_family_22 : decode cX12_family 22 = .ok (.iaload, 1) := by decide +kernel
theorem dX12_family_23 : decode cX12_family 23 = .ok (.goto 4, 3) := by decide +kernel
theorem dX12_family_26 : decode cX12_family 26 = .ok (.iconst (-1), 1) := by decide +kernel
theorem dX12_family_27 : decode cX12_family 27 = .ok (.ireturn, 1) := by decide +kernel
theorem dX12_told_0 : decode cX12_told 0 = .ok (.aload_n 0, 1) := by decide +kernel
theorem dX12_told_1 : decode cX12_told 1 = .ok (.iconst 0, 1) := by decide +kernel
theorem dX12_told_2 : decode cX12_told 2 = .ok (.putfield 87, 3) := by decide +kernel
theorem dX12_told_5 : decode cX12_told 5 = .ok (.iload_n 1, 1) := by decide +kernel
theorem dX12_told_6 : decode cX12_told 6 = .ok (.tableswitch 86 0 4 #[34, 39, 68, 76, 81], 34) := by decide +kernel
theorem dX12_told_40 : decode cX12_told 40 = .ok (.aload_n 0, 1) := by decide +kernel
theorem dX12_told_41 : decode cX12_told 41 = .ok (.getfield 90, 3) := by decide +kernel
theorem dX12_told_44 : decode cX12_told 44 = .ok (.ireturn, 1) := by decide +kernel
theorem dX12_told_45 : decode cX12_told 45 = .ok (.iconst 0, 1) := by decide +kernel
theorem dX12_told_46 : decode cX12_told 46 = .ok (.istore_n 2, 1) := by decide +kernel
theorem dX12_told_47 : decode cX12_told 47 = .ok (.iconst 0, 1) := by decide +kernel
theorem dX12_told_48 : decode cX12_told 48 = .ok (.istore_n 3, 1) := by decide +kernel
theorem dX12_told_49 : decode cX12_told 49 = .ok (.iload_n 3, 1) := by decide +kernel
theorem dX12_told_50 : decode cX12_told 50 = .ok (.aload_n 0, 1) := by decide +kernel
theorem dX12_told_51 : decode cX12_told 51 = .ok (.getfield 90, 3) := by decide +kernel
theorem dX12_told_54 : decode cX12_told 54 = .ok (.if_icmp .ge 18, 3) := by decide +kernel
theorem dX12_told_57 : decode cX12_told 57 = .ok (.iload_n 2, 1) := by decide +kernel
theorem dX12_told_58 : decode cX12_told 58 = .ok (.aload_n 0, 1) := by decide +kernel
theorem dX12_told_59 : decode cX12_told 59 = .ok (.getfield 18, 3) := by decide +kernel
theorem dX12_told_62 : decode cX12_told 62 = .ok (.iload_n 3, 1) := by decide +kernel
theorem dX12_told_63 : decode cX12_told 63 = .ok (.iaload, 1) := by decide +kernel
theorem dX12_told_64 : decode cX12_told 64 = .ok (.iadd, 1) := by decide +kernel
theorem dX12_told_65 : decode cX12_told 65 = .ok (.istore_n 2, 1) := by decide +kernel
theorem dX12_told_66 : decode cX12_told 66 = .ok (.iinc 3 1, 3) := by decide +kernel
theorem dX12_told_69 : decode cX12_told 69 = .ok (.goto (-20), 3) := by decide +kernel
theorem dX12_told_72 : decode cX12_told 72 = .ok (.iload_n 2, 1) := by decide +kernel
theorem dX12_told_73 : decode cX12_told 73 = .ok (.ireturn, 1) := by decide +kernel
theorem dX12_told_74 : decode cX12_told 74 = .ok (.aload_n 0, 1) := by decide +kernel
theorem dX12_told_75 : decode cX12_told 75 = .ok (.getfield 18, 3) := by decide +kernel
theorem dX12_told_78 : decode cX12_told 78 = .ok (.bipush 8, 2) := by decide +kernel
theorem dX12_told_80 : decode cX12_told 80 = .ok (.iaload, 1) := by decide +kernel
theorem dX12_told_81 : decode cX12_told 81 = .ok (.ireturn, 1) := by decide +kernel
theorem dX12_told_82 : decode cX12_told 82 = .ok (.aload_n 0, 1) := by decide +kernel
theorem dX12_told_83 : decode cX12_told 83 = .ok (.getfield 101, 3) := by decide +kernel
theorem dX12_told_86 : decode cX12_told 86 = .ok (.ireturn, 1) := by decide +kernel
theorem dX12_told_87 : decode cX12_told 87 = .ok (.aload_n 0, 1) := by decide +kernel
theorem dX12_told_88 : decode cX12_told 88 = .ok (.getfield 204, 3) := by decide +kernel
theorem dX12_told_91 : decode cX12_told 91 = .ok (.ireturn, 1) := by decide +kernel
theorem dX12_told_92 : decode cX12_told 92 = .ok (.bipush (-2), 2) := by decide +kernel
theorem dX12_told_94 : decode cX12_told 94 = .ok (.ireturn, 1) := by decide +kernel
theorem dJ11_isValidCodePoint_9a6ad_0 : decode cJ11_isValidCodePoint_9a6ad 0 = .ok (.iload_n 0, 1) := by decide +kernel
theorem dJ11_isValidCodePoint_9a6ad_1 : decode cJ11_isValidCodePoint_9a6ad 1 = .ok (.bipush 16, 2) := by decide +kernel
theorem dJ11_isValidCodePoint_9a6ad_3 : decode cJ11_isValidCodePoint_9a6ad 3 = .ok (.iushr, 1) := by decide +kernel
theorem dJ11_isValidCodePoint_9a6ad_4 : decode cJ11_isValidCodePoint_9a6ad 4 = .ok (.istore_n 1, 1) := by decide +kernel
theorem dJ11_isValidCodePoint_9a6ad_5 : decode cJ11_isValidCodePoint_9a6ad 5 = .ok (.iload_n 1, 1) := by decide +kernel
theorem dJ11_isValidCodePoint_9a6ad_6 : decode cJ11_isValidCodePoint_9a6ad 6 = .ok (.bipush 17, 2) := by decide +kernel
theorem dJ11_isValidCodePoint_9a6ad_8 : decode cJ11_isValidCodePoint_9a6ad 8 = .ok (.if_icmp .ge 7, 3) := by decide +kernel
theorem dJ11_isValidCodePoint_9a6ad_11 : decode cJ11_isValidCodePoint_9a6ad 11 = .ok (.iconst 1, 1) := by decide +kernel
theorem dJ11_isValidCodePoint_9a6ad_12 : decode cJ11_isValidCodePoint_9a6ad 12 = .ok (.goto 4, 3) := by decide +kernel
theorem dJ11_isValidCodePoint_9a6ad_15 : decode cJ11_isValidCodePoint_9a6ad 15 = .ok (.iconst 0, 1) := by decide +kernel
theorem dJ11_isValidCodePoint_9a6ad_16 : decode cJ11_isValidCodePoint_9a6ad 16 = .ok (.ireturn, 1) := by decide +kernel
theorem dJ11_highSurrogate_5068e_0 : decode cJ11_highSurrogate_5068e 0 = .ok (.iload_n 0, 1) := by decide +kernel
theorem dJ11_highSurrogate_5068e_1 : decode cJ11_highSurrogate_5068e 1 = .ok (.bipush 10, 2) := by decide +kernel
theorem dJ11_highSurrogate_5068e_3 : decode cJ11_highSurrogate_5068e 3 = .ok (.iushr, 1) := by decide +kernel
theorem dJ11_highSurrogate_5068e_4 : decode cJ11_highSurrogate_5068e 4 = .ok (.ldc 110, 2) := by decide +kernel
theorem dJ11_highSurrogate_5068e_6 : decode cJ11_highSurrogate_5068e 6 = .ok (.iadd, 1) := by decide +kernel
theorem dJ11_highSurrogate_5068e_7 : decode cJ11_highSurrogate_5068e 7 = .ok (.i2c, 1) := by decide +kernel
theorem dJ11_highSurrogate_5068e_8 : decode cJ11_highSurrogate_5068e 8 = .ok (.ireturn, 1) := by decide +kernel
theorem dJ11_lowSurrogate_5068e_0 : decode cJ11_lowSurrogate_5068e 0 = .ok (.iload_n 0, 1) := by decide +kernel
theorem dJ11_lowSurrogate_5068e_1 : decode cJ11_lowSurrogate_5068e 1 = .ok (.sipush 1023, 3) := by decide +kernel
theorem dJ11_lowSurrogate_5068e_4 : decode cJ11_lowSurrogate_5068e 4 = .ok (.iand, 1) := by decide +kernel
theorem dJ11_lowSurrogate_5068e_5 : decode cJ11_lowSurrogate_5068e 5 = .ok (.ldc 76, 2) := by decide +kernel
theorem dJ11_lowSurrogate_5068e_7 : decode cJ11_lowSurrogate_5068e 7 = .ok (.iadd, 1) := by decide +kernel
theorem dJ11_lowSurrogate_5068e_8 : decode cJ11_lowSurrogate_5068e 8 = .ok (.i2c, 1) := by decide +kernel
theorem dJ11_lowSurrogate_5068e_9 : decode cJ11_lowSurrogate_5068e 9 = .ok (.ireturn, 1) := by decide +kernel
theorem dJ6_numberOfLeadingZeros_0f7a4_0 : decode cJ6_numberOfLeadingZeros_0f7a4 0 = .ok (.iload_n 0, 1) := by decide +kernel
theorem dJ6_numberOfLeadingZeros_0f7a4_1 : decode cJ6_numberOfLeadingZeros_0f7a4 1 = .ok (.ifCond .gt 14, 3) := by decide +kernel
theorem dJ6_numberOfLeadingZeros_0f7a4_4 : decode cJ6_numberOfLeadingZeros_0f7a4 4 = .ok (.iload_n 0, 1) := by decide +kernel
theorem dJ6_numberOfLeadingZeros_0f7a4_5 : decode cJ6_numberOfLeadingZeros_0f7a4 5 = .ok (.ifCond .ne 8, 3) := by decide +kernel
theorem dJ6_numberOfLeadingZeros_0f7a4_8 : decode cJ6_numberOfLeadingZeros_0f7a4 8 = .ok (.bipush 32, 2) := by decide +kernel
theorem dJ6_numberOfLeadingZeros_0f7a4_10 : decode cJ6_numberOfLeadingZeros_0f7a4 10 = .ok (.goto 4, 3) := by decide +kernel
theorem dJ6_numberOfLeadingZeros_0f7a4_13 : decode cJ6_numberOfLeadingZeros_0f7a4 13 = .ok (.iconst 0, 1) := by decide +kernel
theorem dJ6_numberOfLeadingZeros_0f7a4_14 : decode cJ6_numberOfLeadingZeros_0f7a4 14 = .ok (.ireturn, 1) := by decide +kernel
theorem dJ6_numberOfLeadingZeros_0f7a4_15 : decode cJ6_numberOfLeadingZeros_0f7a4 15 = .ok (.bipush 31, 2) := by decide +kernel
theorem dJ6_numberOfLeadingZeros_0f7a4_17 : decode cJ6_numberOfLeadingZeros_0f7a4 17 = .ok (.istore_n 1, 1) := by decide +kernel
theorem dJ6_numberOfLeadingZeros_0f7a4_18 : decode cJ6_numberOfLeadingZeros_0f7a4 18 = .ok (.iload_n 0, 1) := by decide +kernel
theorem dJ6_numberOfLeadingZeros_0f7a4_19 : decode cJ6_numberOfLeadingZeros_0f7a4 19 = .ok (.ldc_w 264, 3) := by decide +kernel
theorem dJ6_numberOfLeadingZeros_0f7a4_22 : decode cJ6_numberOfLeadingZeros_0f7a4 22 = .ok (.if_icmp .lt 11, 3) := by decide +kernel
theorem dJ6_numberOfLeadingZeros_0f7a4_25 : decode cJ6_numberOfLeadingZeros_0f7a4 25 = .ok (.iinc 1 (-16), 3) := by decide +kernel
theorem dJ6_numberOfLeadingZeros_0f7a4_28 : decode cJ6_numberOfLeadingZeros_0f7a4 28 = .ok (.iload_n 0, 1) := by decide +kernel
theorem dJ6_numberOfLeadingZeros_0f7a4_29 : decode cJ6_numberOfLeadingZeros_0f7a4 29 = .ok (.bipush 16, 2) := by decide +kernel
theorem dJ6_numberOfLeadingZeros_0f7a4_31 : decode cJ6_numberOfLeadingZeros_0f7a4 31 = .ok (.iushr, 1) := by decide +kernel
theorem dJ6_numberOfLeadingZeros_0f7a4_32 : decode cJ6_numberOfLeadingZeros_0f7a4 32 = .ok (.istore_n 0, 1) := by decide +kernel
theorem dJ6_numberOfLeadingZeros_0f7a4_33 : decode cJ6_numberOfLeadingZeros_0f7a4 33 = .ok (.iload_n 0, 1) := by decide +kernel
theorem dJ6_numberOfLeadingZeros_0f7a4_34 : decode cJ6_numberOfLeadingZeros_0f7a4 34 = .ok (.sipush 256, 3) := by decide +kernel
theorem dJ6_numberOfLeadingZeros_0f7a4_37 : decode cJ6_numberOfLeadingZeros_0f7a4 37 = .ok (.if_icmp .lt 11, 3) := by decide +kernel
theorem dJ6_numberOfLeadingZeros_0f7a4_40 : decode cJ6_numberOfLeadingZeros_0f7a4 40 = .ok (.iinc 1 (-8), 3) := by decide +kernel
theorem dJ6_numberOfLeadingZeros_0f7a4_43 : decode cJ6_numberOfLeadingZeros_0f7a4 43 = .ok (.iload_n 0, 1) := by decide +kernel
theorem dJ6_numberOfLeadingZeros_0f7a4_44 : decode cJ6_numberOfLeadingZeros_0f7a4 44 = .ok (.bipush 8, 2) := by decide +kernel
theorem dJ6_numberOfLeadingZeros_0f7a4_46 : decode cJ6_numberOfLeadingZeros_0f7a4 46 = .ok (.iushr, 1) := by decide +kernel
theorem dJ6_numberOfLeadingZeros_0f7a4_47 : decode cJ6_numberOfLeadingZeros_0f7a4 47 = .ok (.istore_n 0, 1) := by decide +kernel
theorem dJ6_numberOfLeadingZeros_0f7a4_48 : decode cJ6_numberOfLeadingZeros_0f7a4 48 = .ok (.iload_n 0, 1) := by decide +kernel
theorem dJ6_numberOfLeadingZeros_0f7a4_49 : decode cJ6_numberOfLeadingZeros_0f7a4 49 = .ok (.bipush 16, 2) := by decide +kernel
theorem dJ6_numberOfLeadingZeros_0f7a4_51 : decode cJ6_numberOfLeadingZeros_0f7a4 51 = .ok (.if_icmp .lt 10, 3) := by decide +kernel
theorem dJ6_numberOfLeadingZeros_0f7a4_54 : decode cJ6_numberOfLeadingZeros_0f7a4 54 = .ok (.iinc 1 (-4), 3) := by decide +kernel
theorem dJ6_numberOfLeadingZeros_0f7a4_57 : decode cJ6_numberOfLeadingZeros_0f7a4 57 = .ok (.iload_n 0, 1) := by decide +kernel
theorem dJ6_numberOfLeadingZeros_0f7a4_58 : decode cJ6_numberOfLeadingZeros_0f7a4 58 = .ok (.iconst 4, 1) := by decide +kernel
theorem dJ6_numberOfLeadingZeros_0f7a4_59 : decode cJ6_numberOfLeadingZeros_0f7a4 59 = .ok (.iushr, 1) := by decide +kernel
theorem dJ6_numberOfLeadingZeros_0f7a4_60 : decode cJ6_numberOfLeadingZeros_0f7a4 60 = .ok (.istore_n 0, 1) := by decide +kernel
theorem dJ6_numberOfLeadingZeros_0f7a4_61 : decode cJ6_numberOfLeadingZeros_0f7a4 61 = .ok (.iload_n 0, 1) := by decide +kernel
theorem dJ6_numberOfLeadingZeros_0f7a4_62 : decode cJ6_numberOfLeadingZeros_0f7a4 62 = .ok (.iconst 4, 1) := by decide +kernel
theorem dJ6_numberOfLeadingZeros_0f7a4_63 : decode cJ6_numberOfLeadingZeros_0f7a4 63 = .ok (.if_icmp .lt 10, 3) := by decide +kernel
theorem dJ6_numberOfLeadingZeros_0f7a4_66 : decode cJ6_numberOfLeadingZeros_0f7a4 66 = .ok (.iinc 1 (-2), 3) := by decide +kernel
theorem dJ6_numberOfLeadingZeros_0f7a4_69 : decode cJ6_numberOfLeadingZeros_0f7a4 69 = .ok (.iload_n 0, 1) := by decide +kernel
theorem dJ6_numberOfLeadingZeros_0f7a4_70 : decode cJ6_numberOfLeadingZeros_0f7a4 70 = .ok (.iconst 2, 1) := by decide +kernel
theorem dJ6_numberOfLeadingZeros_0f7a4_71 : decode cJ6_numberOfLeadingZeros_0f7a4 71 = .ok (.iushr, 1) := by decide +kernel
theorem dJ6_numberOfLeadingZeros_0f7a4_72 : decode cJ6_numberOfLeadingZeros_0f7a4 72 = .ok (.istore_n 0, 1) := by decide +kernel
theorem dJ6_numberOfLeadingZeros_0f7a4_73 : decode cJ6_numberOfLeadingZeros_0f7a4 73 = .ok (.iload_n 1, 1) := by decide +kernel
theorem dJ6_numberOfLeadingZeros_0f7a4_74 : decode cJ6_numberOfLeadingZeros_0f7a4 74 = .ok (.iload_n 0, 1) := by decide +kernel
theorem dJ6_numberOfLeadingZeros_0f7a4_75 : decode cJ6_numberOfLeadingZeros_0f7a4 75 = .ok (.iconst 1, 1) := by decide +kernel
theorem dJ6_numberOfLeadingZeros_0f7a4_76 : decode cJ6_numberOfLeadingZeros_0f7a4 76 = .ok (.iushr, 1) := by decide +kernel
theorem dJ6_numberOfLeadingZeros_0f7a4_77 : decode cJ6_numberOfLeadingZeros_0f7a4 77 = .ok (.isub, 1) := by decide +kernel
theorem dJ6_numberOfLeadingZeros_0f7a4_78 : decode cJ6_numberOfLeadingZeros_0f7a4 78 = .ok (.ireturn, 1) := by decide +kernel
theorem dJ9_abs_0f7a4_0 : decode cJ9_abs_0f7a4 0 = .ok (.iload_n 0, 1) := by decide +kernel
theorem dJ9_abs_0f7a4_1 : decode cJ9_abs_0f7a4 1 = .ok (.ifCond .ge 8, 3) := by decide +kernel
theorem dJ9_abs_0f7a4_4 : decode cJ9_abs_0f7a4 4 = .ok (.iload_n 0, 1) := by decide +kernel
theorem dJ9_abs_0f7a4_5 : decode cJ9_abs_0f7a4 5 = .ok (.ineg, 1) := by decide +kernel
theorem dJ9_abs_0f7a4_6 : decode cJ9_abs_0f7a4 6 = .ok (.goto 4, 3) := by decide +kernel
theorem dJ9_abs_0f7a4_9 : decode cJ9_abs_0f7a4 9 = .ok (.iload_n 0, 1) := by decide +kernel
theorem dJ9_abs_0f7a4_10 : decode cJ9_abs_0f7a4 10 = .ok (.ireturn, 1) := by decide +kernel
theorem dJ9_max_7cf53_0 : decode cJ9_max_7cf53 0 = .ok (.iload_n 0, 1) := by decide +kernel
theorem dJ9_max_7cf53_1 : decode cJ9_max_7cf53 1 = .ok (.iload_n 1, 1) := by decide +kernel
theorem dJ9_max_7cf53_2 : decode cJ9_max_7cf53 2 = .ok (.if_icmp .lt 7, 3) := by decide +kernel
theorem dJ9_max_7cf53_5 : decode cJ9_max_7cf53 5 = .ok (.iload_n 0, 1) := by decide +kernel
theorem dJ9_max_7cf53_6 : decode cJ9_max_7cf53 6 = .ok (.goto 4, 3) := by decide +kernel
theorem dJ9_max_7cf53_9 : decode cJ9_max_7cf53 9 = .ok (.iload_n 1, 1) := by decide +kernel
theorem dJ9_max_7cf53_10 : decode cJ9_max_7cf53 10 = .ok (.ireturn, 1) := by decide +kernel
theorem dJ9_min_7cf53_0 : decode cJ9_min_7cf53 0 = .ok (.iload_n 0, 1) := by decide +kernel
theorem dJ9_min_7cf53_1 : decode cJ9_min_7cf53 1 = .ok (.iload_n 1, 1) := by decide +kernel
theorem dJ9_min_7cf53_2 : decode cJ9_min_7cf53 2 = .ok (.if_icmp .gt 7, 3) := by decide +kernel
theorem dJ9_min_7cf53_5 : decode cJ9_min_7cf53 5 = .ok (.iload_n 0, 1) := by decide +kernel
theorem dJ9_min_7cf53_6 : decode cJ9_min_7cf53 6 = .ok (.goto 4, 3) := by decide +kernel
theorem dJ9_min_7cf53_9 : decode cJ9_min_7cf53 9 = .ok (.iload_n 1, 1) := by decide +kernel
theorem dJ9_min_7cf53_10 : decode cJ9_min_7cf53 10 = .ok (.ireturn, 1) := by decide +kernel
set_option maxRecDepth 20000 in
theorem ggJ0_length_8abf5_J0_coder_7d493 : GoodIn wsJ0_length_8abf5 wsJ0_coder_7d493 := goodIn_r _ [6, 7, 8] (by decide +kernel) (by decide +kernel)
set_option maxRecDepth 20000 in
theorem gJ0_length_8abf5_J0_coder_7d493 : GoodIn wsJ0_length_8abf5 (wsV RJ0 335 RJ0 yJ0_coder_7d493 wsJ0_coder_7d493) := goodIn_app (goodIn_of _ (by decide +kernel)) ggJ0_length_8abf5_J0_coder_7d493
theorem dJ0_length_8abf5_0 : decode cJ0_length_8abf5 0 = .ok (.aload_n 0, 1) := by decide +kernel
theorem dJ0_length_8abf5_1 : decode cJ0_length_8abf5 1 = .ok (.getfield 9, 3) := by decide +kernel
theorem dJ0_length_8abf5_4 : decode cJ0_length_8abf5 4 = .ok (.arraylength, 1) := by decide +kernel
theorem dJ0_length_8abf5_5 : decode cJ0_length_8abf5 5 = .ok (.aload_n 0, 1) := by decide +kernel
theorem dJ0_length_8abf5_6 : decode cJ0_length_8abf5 6 = .ok (.invokevirtual 335, 3) := by decide +kernel
theorem dJ0_length_8abf5_9 : decode cJ0_length_8abf5 9 = .ok (.ishr, 1) := by decide +kernel
theorem dJ0_length_8abf5_10 : decode cJ0_length_8abf5 10 = .ok (.ireturn, 1) := by decide +kernel
set_option maxRecDepth 20000 in
theorem ggJ0_indexOf_0f7a4_J0_indexOf_7cf53 : GoodIn wsJ0_indexOf_0f7a4 wsJ0_indexOf_7cf53 := goodIn_r _ [5, 6, 7, 8, 9, 4, 10, 11, 12, 13, 14, 15, 16, 17, 18, 19, 20, 21, 22, 23, 24, 25, 26, 27, 28, 29, 30, 31, 32, 33, 34, 35, 36, 37, 38, 39, 40, 41, 42, 43, 44, 45, 46, 47, 48, 49, 50, 51, 52, 53, 54, 55, 56, 57, 58, 59, 60, 61, 62, 63, 64, 65, 66, 67, 68, 69, 70, 71, 72, 73, 74, 75, 76, 77, 78, 79, 80, 81, 82, 83, 84, 85] (by decide +kernel) (by decide +kernel)
set_option maxRecDepth 20000 in
theorem gJ0_indexOf_0f7a4_J0_indexOf_7cf53 : GoodIn wsJ0_indexOf_0f7a4 (wsV RJ0 633 RJ0 yJ0_indexOf_7cf53 wsJ0_indexOf_7cf53) := goodIn_app (goodIn_of _ (by decide +kernel)) ggJ0_indexOf_0f7a4_J0_indexOf_7cf53
theorem dJ0_indexOf_0f7a4_0 : decode cJ0_indexOf_0f7a4 0 = .ok (.aload_n 0, 1) := by decide +kernel
theorem dJ0_indexOf_0f7a4_1 : decode cJ0_indexOf_0f7a4 1 = .ok (.iload_n 1, 1) := by decide +kernel
theorem dJ0_indexOf_0f7a4_2 : decode cJ0_indexOf_0f7a4 2 = .ok (.iconst 0, 1) := by decide +kernel
theorem dJ0_indexOf_0f7a4_3 : decode cJ0_indexOf_0f7a4 3 = .ok (.invokevirtual 633, 3) := by decide +kernel
theorem dJ0_indexOf_0f7a4_6 : decode cJ0_indexOf_0f7a4 6 = .ok (.ireturn, 1) := by decide +kernel
set_option maxRecDepth 20000 in
theorem ggJ0_indexOf_7cf53_J0_isLatin1_aae02 : GoodIn wsJ0_indexOf_7cf53 wsJ0_isLatin1_aae02 := goodIn_r _ [6, 7, 8] (by decide +kernel) (by decide +kernel)
set_option maxRecDepth 20000 in
theorem gJ0_indexOf_7cf53_J0_isLatin1_aae02 : GoodIn wsJ0_indexOf_7cf53 (wsV RJ0 492 RJ0 yJ0_isLatin1_aae02 wsJ0_isLatin1_aae02) := goodIn_app (goodIn_of _ (by decide +kernel)) ggJ0_indexOf_7cf53_J0_isLatin1_aae02
set_option maxRecDepth 20000 in
theorem ggJ0_indexOf_7cf53_J0_length_8abf5 : GoodIn wsJ0_indexOf_7cf53 wsJ0_length_8abf5 := goodIn_r _ [12, 1, 13, 14, 15, 5, 16, 7, 8] (by decide +kernel) (by decide +kernel)
set_option maxRecDepth 20000 in
theorem gJ0_indexOf_7cf53_J0_length_8abf5 : GoodIn wsJ0_indexOf_7cf53 (wsV RJ0 505 RJ0 yJ0_length_8abf5 wsJ0_length_8abf5) := goodIn_app (goodIn_of _ (by decide +kernel)) ggJ0_indexOf_7cf53_J0_length_8abf5
set_option maxRecDepth 20000 in
theorem ggJ0_indexOf_7cf53_J1_indexOf_4cfef : GoodIn wsJ0_indexOf_7cf53 wsJ1_indexOf_4cfef := goodIn_r _ [20, 21, 22, 23, 24, 25, 26, 27, 28, 29, 19, 30, 31, 32, 33] (by decide +kernel) (by decide +kernel)
set_option maxRecDepth 20000 in
theorem gJ0_indexOf_7cf53_J1_indexOf_4cfef : GoodIn wsJ0_indexOf_7cf53 (va_wsS RJ0 637 yJ1_indexOf_4cfef wsJ1_indexOf_4cfef) := goodIn_app (goodIn_of _ (by decide +kernel)) ggJ0_indexOf_7cf53_J1_indexOf_4cfef
set_option maxRecDepth 20000 in
theorem ggJ0_indexOf_7cf53_J2_indexOf_4cfef : GoodIn wsJ0_indexOf_7cf53 wsJ2_indexOf_4cfef := goodIn_r _ [37, 38, 22, 23, 24, 39, 26, 27, 40, 41, 42, 36, 43, 44, 45, 46, 47, 48, 49, 50, 51, 5, 52, 53, 54, 55, 56, 57, 58, 59, 60, 61, 62, 63, 64, 65, 66, 67, 68, 69, 70, 71, 72, 73, 74, 75, 76, 77, 78, 79, 80, 81] (by decide +kernel) (by decide +kernel)
set_option maxRecDepth 20000 in
theorem gJ0_indexOf_7cf53_J2_indexOf_4cfef : GoodIn wsJ0_indexOf_7cf53 (va_wsS RJ0 640 yJ2_indexOf_4cfef wsJ2_indexOf_4cfef) := goodIn_app (goodIn_of _ (by decide +kernel)) ggJ0_indexOf_7cf53_J2_indexOf_4cfef
theorem dJ0_indexOf_7cf53_0 : decode cJ0_indexOf_7cf53 0 = .ok (.aload_n 0, 1) := by decide +kernel
theorem dJ0_indexOf_7cf53_1 : decode cJ0_indexOf_7cf53 1 = .ok (.invokevirtual 492, 3) := by decide +kernel
theorem dJ0_indexOf_7cf53_4 : decode cJ0_indexOf_7cf53 4 = .ok (.ifCond .eq 19, 3) := by decide +kernel
theorem dJ0_indexOf_7cf53_7 : decode cJ0_indexOf_7cf53 7 = .ok (.aload_n 0, 1) := by decide +kernel
theorem dJ0_indexOf_7cf53_8 : decode cJ0_indexOf_7cf53 8 = .ok (.getfield 9, 3) := by decide +kernel
theorem dJ0_indexOf_7cf53_11 : decode cJ0_indexOf_7cf53 11 = .ok (.iload_n 1, 1) := by decide +kernel
theorem dJ0_indexOf_7cf53_12 : decode cJ0_indexOf_7cf53 12 = .ok (.iload_n 2, 1) := by decide +kernel
theorem dJ0_indexOf_7cf53_13 : decode cJ0_indexOf_7cf53 13 = .ok (.aload_n 0, 1) := by decide +kernel
theorem dJ0_indexOf_7cf53_14 : decode cJ0_indexOf_7cf53 14 = .ok (.invokevirtual 505, 3) := by decide +kernel
theorem dJ0_indexOf_7cf53_17 : decode cJ0_indexOf_7cf53 17 = .ok (.invokestatic 637, 3) := by decide +kernel
theorem dJ0_indexOf_7cf53_20 : decode cJ0_indexOf_7cf53 20 = .ok (.goto 16, 3) := by decide +kernel
theorem dJ0_indexOf_7cf53_23 : decode cJ0_indexOf_7cf53 23 = .ok (.aload_n 0, 1) := by decide +kernel
theorem dJ0_indexOf_7cf53_24 : decode cJ0_indexOf_7cf53 24 = .ok (.getfield 9, 3) := by decide +kernel
theorem dJ0_indexOf_7cf53_27 : decode cJ0_indexOf_7cf53 27 = .ok (.iload_n 1, 1) := by decide +kernel
theorem dJ0_indexOf_7cf53_28 : decode cJ0_indexOf_7cf53 28 = .ok (.iload_n 2, 1) := by decide +kernel
theorem dJ0_indexOf_7cf53_29 : decode cJ0_indexOf_7cf53 29 = .ok (.aload_n 0, 1) := by decide +kernel
theorem dJ0_indexOf_7cf53_30 : decode cJ0_indexOf_7cf53 30 = .ok (.invokevirtual 505, 3) := by decide +kernel
theorem dJ0_indexOf_7cf53_33 : decode cJ0_indexOf_7cf53 33 = .ok (.invokestatic 640, 3) := by decide +kernel
theorem dJ0_indexOf_7cf53_36 : decode cJ0_indexOf_7cf53 36 = .ok (.ireturn, 1) := by decide +kernel
theorem dJ0_coder_7d493_0 : decode cJ0_coder_7d493 0 = .ok (.getstatic 38, 3) := by decide +kernel
theorem dJ0_coder_7d493_3 : decode cJ0_coder_7d493 3 = .ok (.ifCond .eq 10, 3) := by decide +kernel
theorem dJ0_coder_7d493_6 : decode cJ0_coder_7d493 6 = .ok (.aload_n 0, 1) := by decide +kernel
theorem dJ0_coder_7d493_7 : decode cJ0_coder_7d493 7 = .ok (.getfield 15, 3) := by decide +kernel
theorem dJ0_coder_7d493_10 : decode cJ0_coder_7d493 10 = .ok (.goto 4, 3) := by decide +kernel
theorem dJ0_coder_7d493_13 : decode cJ0_coder_7d493 13 = .ok (.iconst 1, 1) := by decide +kernel
theorem dJ0_coder_7d493_14 : decode cJ0_coder_7d493 14 = .ok (.ireturn, 1) := by decide +kernel
theorem dJ0_isLatin1_aae02_0 : decode cJ0_isLatin1_aae02 0 = .ok (.getstatic 38, 3) := by decide +kernel
theorem dJ0_isLatin1_aae02_3 : decode cJ0_isLatin1_aae02 3 = .ok (.ifCond .eq 14, 3) := by decide +kernel
theorem dJ0_isLatin1_aae02_6 : decode cJ0_isLatin1_aae02 6 = .ok (.aload_n 0, 1) := by decide +kernel
theorem dJ0_isLatin1_aae02_7 : decode cJ0_isLatin1_aae02 7 = .ok (.getfield 15, 3) := by decide +kernel
theorem dJ0_isLatin1_aae02_10 : decode cJ0_isLatin1_aae02 10 = .ok (.ifCond .ne 7, 3) := by decide +kernel
theorem dJ0_isLatin1_aae02_13 : decode cJ0_isLatin1_aae02 13 = .ok (.iconst 1, 1) := by decide +kernel
theorem dJ0_isLatin1_aae02_14 : decode cJ0_isLatin1_aae02 14 = .ok (.goto 4, 3) := by decide +kernel
theorem dJ0_isLatin1_aae02_17 : decode cJ0_isLatin1_aae02 17 = .ok (.iconst 0, 1) := by decide +kernel
theorem dJ0_isLatin1_aae02_18 : decode cJ0_isLatin1_aae02 18 = .ok (.ireturn, 1) := by decide +kernel
set_option maxRecDepth 20000 in
theorem ggJ0_checkBoundsBeginEnd_23922_J3_checkFromToIndex_8c36e : GoodIn wsJ0_checkBoundsBeginEnd_23922 wsJ3_checkFromToIndex_8c36e := goodIn_r _ [5] (by decide +kernel) (by decide +kernel)
set_option maxRecDepth 20000 in
theorem gJ0_checkBoundsBeginEnd_23922_J3_checkFromToIndex_8c36e : GoodIn wsJ0_checkBoundsBeginEnd_23922 (va_wsS RJ0 1062 yJ3_checkFromToIndex_8c36e wsJ3_checkFromToIndex_8c36e) := goodIn_app (goodIn_of _ (by decide +kernel)) ggJ0_checkBoundsBeginEnd_23922_J3_checkFromToIndex_8c36e
theorem dJ0_checkBoundsBeginEnd_23922_0 : decode cJ0_checkBoundsBeginEnd_23922 0 = .ok (.iload_n 0, 1) := by decide +kernel
theorem dJ0_checkBoundsBeginEnd_23922_1 : decode cJ0_checkBoundsBeginEnd_23922 1 = .ok (.iload_n 1, 1) := by decide +kernel
theorem dJ0_checkBoundsBeginEnd_23922_2 : decode cJ0_checkBoundsBeginEnd_23922 2 = .ok (.iload_n 2, 1) := by decide +kernel
theorem dJ0_checkBoundsBeginEnd_23922_3 : decode cJ0_checkBoundsBeginEnd_23922 3 = .ok (.getstatic 1053, 3) := by decide +kernel
theorem dJ0_checkBoundsBeginEnd_23922_6 : decode cJ0_checkBoundsBeginEnd_23922 6 = .ok (.invokestatic 1062, 3) := by decide +kernel
theorem dJ0_checkBoundsBeginEnd_23922_9 : decode cJ0_checkBoundsBeginEnd_23922 9 = .ok (.pop, 1) := by decide +kernel
theorem dJ0_checkBoundsBeginEnd_23922_10 : decode cJ0_checkBoundsBeginEnd_23922 10 = .ok (.return_, 1) := by decide +kernel
theorem dJ1_canEncode_9a6ad_0 : decode cJ1_canEncode_9a6ad 0 = .ok (.iload_n 0, 1) := by decide +kernel
theorem dJ1_canEncode_9a6ad_1 : decode cJ1_canEncode_9a6ad 1 = .ok (.ifCond .lt 14, 3) := by decide +kernel
theorem dJ1_canEncode_9a6ad_4 : decode cJ1_canEncode_9a6ad 4 = .ok (.iload_n 0, 1) := by decide +kernel
theorem dJ1_canEncode_9a6ad_5 : decode cJ1_canEncode_9a6ad 5 = .ok (.sipush 255, 3) := by decide +kernel
theorem dJ1_canEncode_9a6ad_8 : decode cJ1_canEncode_9a6ad 8 = .ok (.if_icmp .gt 7, 3) := by decide +kernel
theorem dJ1_canEncode_9a6ad_11 : decode cJ1_canEncode_9a6ad 11 = .ok (.iconst 1, 1) := by decide +kernel
theorem dJ1_canEncode_9a6ad_12 : decode cJ1_canEncode_9a6ad 12 = .ok (.goto 4, 3) := by decide +kernel
theorem dJ1_canEncode_9a6ad_15 : decode cJ1_canEncode_9a6ad 15 = .ok (.iconst 0, 1) := by decide +kernel
theorem dJ1_canEncode_9a6ad_16 : decode cJ1_canEncode_9a6ad 16 = .ok (.ireturn, 1) := by decide +kernel
set_option maxRecDepth 20000 in
theorem ggJ1_indexOf_4cfef_J1_canEncode_9a6ad : GoodIn wsJ1_indexOf_4cfef wsJ1_canEncode_9a6ad := goodIn_r _ [11] (by decide +kernel) (by decide +kernel)
set_option maxRecDepth 20000 in
theorem gJ1_indexOf_4cfef_J1_canEncode_9a6ad : GoodIn wsJ1_indexOf_4cfef (va_wsS RJ1 88 yJ1_canEncode_9a6ad wsJ1_canEncode_9a6ad) := goodIn_app (goodIn_of _ (by decide +kernel)) ggJ1_indexOf_4cfef_J1_canEncode_9a6ad
set_option maxRecDepth 20000 in
theorem ggJ1_indexOf_4cfef_J1_indexOfChar_4cfef : GoodIn wsJ1_indexOf_4cfef wsJ1_indexOfChar_4cfef := goodIn_r _ [14] (by decide +kernel) (by decide +kernel)
set_option maxRecDepth 20000 in
theorem gJ1_indexOf_4cfef_J1_indexOfChar_4cfef : GoodIn wsJ1_indexOf_4cfef (va_wsS RJ1 95 yJ1_indexOfChar_4cfef wsJ1_indexOfChar_4cfef) := goodIn_app (goodIn_of _ (by decide +kernel)) ggJ1_indexOf_4cfef_J1_indexOfChar_4cfef
theorem dJ1_indexOf_4cfef_0 : decode cJ1_indexOf_4cfef 0 = .ok (.iload_n 1, 1) := by decide +kernel
theorem dJ1_indexOf_4cfef_1 : decode cJ1_indexOf_4cfef 1 = .ok (.invokestatic 88, 3) := by decide +kernel
theorem dJ1_indexOf_4cfef_4 : decode cJ1_indexOf_4cfef 4 = .ok (.ifCond .ne 5, 3) := by decide +kernel
theorem dJ1_indexOf_4cfef_7 : decode cJ1_indexOf_4cfef 7 = .ok (.iconst (-1), 1) := by decide +kernel
theorem dJ1_indexOf_4cfef_8 : decode cJ1_indexOf_4cfef 8 = .ok (.ireturn, 1) := by decide +kernel
theorem dJ1_indexOf_4cfef_9 : decode cJ1_indexOf_4cfef 9 = .ok (.iload_n 2, 1) := by decide +kernel
theorem dJ1_indexOf_4cfef_10 : decode cJ1_indexOf_4cfef 10 = .ok (.iconst 0, 1) := by decide +kernel
theorem dJ1_indexOf_4cfef_11 : decode cJ1_indexOf_4cfef 11 = .ok (.invokestatic 92, 3) := by decide +kernel
theorem dJ1_indexOf_4cfef_14 : decode cJ1_indexOf_4cfef 14 = .ok (.istore_n 2, 1) := by decide +kernel
theorem dJ1_indexOf_4cfef_15 : decode cJ1_indexOf_4cfef 15 = .ok (.iload_n 3, 1) := by decide +kernel
theorem dJ1_indexOf_4cfef_16 : decode cJ1_indexOf_4cfef 16 = .ok (.aload_n 0, 1) := by decide +kernel
theorem dJ1_indexOf_4cfef_17 : decode cJ1_indexOf_4cfef 17 = .ok (.arraylength, 1) := by decide +kernel
theorem dJ1_indexOf_4cfef_18 : decode cJ1_indexOf_4cfef 18 = .ok (.invokestatic 38, 3) := by decide +kernel
theorem dJ1_indexOf_4cfef_21 : decode cJ1_indexOf_4cfef 21 = .ok (.istore_n 3, 1) := by decide +kernel
theorem dJ1_indexOf_4cfef_22 : decode cJ1_indexOf_4cfef 22 = .ok (.iload_n 2, 1) := by decide +kernel
theorem dJ1_indexOf_4cfef_23 : decode cJ1_indexOf_4cfef 23 = .ok (.iload_n 3, 1) := by decide +kernel
theorem dJ1_indexOf_4cfef_24 : decode cJ1_indexOf_4cfef 24 = .ok (.if_icmp .lt 5, 3) := by decide +kernel
theorem dJ1_indexOf_4cfef_27 : decode cJ1_indexOf_4cfef 27 = .ok (.iconst (-1), 1) := by decide +kernel
theorem dJ1_indexOf_4cfef_28 : decode cJ1_indexOf_4cfef 28 = .ok (.ireturn, 1) := by decide +kernel
theorem dJ1_indexOf_4cfef_29 : decode cJ1_indexOf_4cfef 29 = .ok (.aload_n 0, 1) := by decide +kernel
theorem dJ1_indexOf_4cfef_30 : decode cJ1_indexOf_4cfef 30 = .ok (.iload_n 1, 1) := by decide +kernel
theorem dJ1_indexOf_4cfef_31 : decode cJ1_indexOf_4cfef 31 = .ok (.iload_n 2, 1) := by decide +kernel
theorem dJ1_indexOf_4cfef_32 : decode cJ1_indexOf_4cfef 32 = .ok (.iload_n 3, 1) := by decide +kernel
theorem dJ1_indexOf_4cfef_33 : decode cJ1_indexOf_4cfef 33 = .ok (.invokestatic 95, 3) := by decide +kernel
theorem dJ1_indexOf_4cfef_36 : decode cJ1_indexOf_4cfef 36 = .ok (.ireturn, 1) := by decide +kernel
theorem dJ1_indexOfChar_4cfef_0 : decode cJ1_indexOfChar_4cfef 0 = .ok (.iload_n 1, 1) := by decide +kernel
theorem dJ1_indexOfChar_4cfef_1 : decode cJ1_indexOfChar_4cfef 1 = .ok (.i2b, 1) := by decide +kernel
theorem dJ1_indexOfChar_4cfef_2 : decode cJ1_indexOfChar_4cfef 2 = .ok (.istore 4, 2) := by decide +kernel
theorem dJ1_indexOfChar_4cfef_4 : decode cJ1_indexOfChar_4cfef 4 = .ok (.iload_n 2, 1) := by decide +kernel
theorem dJ1_indexOfChar_4cfef_5 : decode cJ1_indexOfChar_4cfef 5 = .ok (.istore 5, 2) := by decide +kernel
theorem dJ1_indexOfChar_4cfef_7 : decode cJ1_indexOfChar_4cfef 7 = .ok (.iload 5, 2) := by decide +kernel
theorem dJ1_indexOfChar_4cfef_9 : decode cJ1_indexOfChar_4cfef 9 = .ok (.iload_n 3, 1) := by decide +kernel
theorem dJ1_indexOfChar_4cfef_10 : decode cJ1_indexOfChar_4cfef 10 = .ok (.if_icmp .ge 21, 3) := by decide +kernel
theorem dJ1_indexOfChar_4cfef_13 : decode cJ1_indexOfChar_4cfef 13 = .ok (.aload_n 0, 1) := by decide +kernel
theorem dJ1_indexOfChar_4cfef_14 : decode cJ1_indexOfChar_4cfef 14 = .ok (.iload 5, 2) := by decide +kernel
theorem dJ1_indexOfChar_4cfef_16 : decode cJ1_indexOfChar_4cfef 16 = .ok (.baload, 1) := by decide +kernel
theorem dJ1_indexOfChar_4cfef_17 : decode cJ1_indexOfChar_4cfef 17 = .ok (.iload 4, 2) := by decide +kernel
theorem dJ1_indexOfChar_4cfef_19 : decode cJ1_indexOfChar_4cfef 19 = .ok (.if_icmp .ne 6, 3) := by decide +kernel
theorem dJ1_indexOfChar_4cfef_22 : decode cJ1_indexOfChar_4cfef 22 = .ok (.iload 5, 2) := by decide +kernel
theorem dJ1_indexOfChar_4cfef_24 : decode cJ1_indexOfChar_4cfef 24 = .ok (.ireturn, 1) := by decide +kernel
theorem dJ1_indexOfChar_4cfef_25 : decode cJ1_indexOfChar_4cfef 25 = .ok (.iinc 5 1, 3) := by decide +kernel
theorem dJ1_indexOfChar_4cfef_28 : decode cJ1_indexOfChar_4cfef 28 = .ok (.goto (-21), 3) := by decide +kernel
theorem dJ1_indexOfChar_4cfef_31 : decode cJ1_indexOfChar_4cfef 31 = .ok (.iconst (-1), 1) := by decide +kernel
theorem dJ1_indexOfChar_4cfef_32 : decode cJ1_indexOfChar_4cfef 32 = .ok (.ireturn, 1) := by decide +kernel
set_option maxRecDepth 20000 in
theorem ggJ2_getChar_3b067_J2_length_9d52b : GoodIn wsJ2_getChar_3b067 wsJ2_length_9d52b := goodIn_r _ [7] (by decide +kernel) (by decide +kernel)
set_option maxRecDepth 20000 in
theorem gJ2_getChar_3b067_J2_length_9d52b : GoodIn wsJ2_getChar_3b067 (va_wsS RJ2 48 yJ2_length_9d52b wsJ2_length_9d52b) := goodIn_app (goodIn_of _ (by decide +kernel)) ggJ2_getChar_3b067_J2_length_9d52b
theorem dJ2_getChar_3b067_0 : decode cJ2_getChar_3b067 0 = .ok (.getstatic 44, 3) := by decide +kernel
theorem dJ2_getChar_3b067_3 : decode cJ2_getChar_3b067 3 = .ok (.ifCond .ne 25, 3) := by decide +kernel
theorem dJ2_getChar_3b067_6 : decode cJ2_getChar_3b067 6 = .ok (.iload_n 1, 1) := by decide +kernel
theorem dJ2_getChar_3b067_7 : decode cJ2_getChar_3b067 7 = .ok (.ifCond .lt 11, 3) := by decide +kernel
theorem dJ2_getChar_3b067_10 : decode cJ2_getChar_3b067 10 = .ok (.iload_n 1, 1) := by decide +kernel
theorem dJ2_getChar_3b067_11 : decode cJ2_getChar_3b067 11 = .ok (.aload_n 0, 1) := by decide +kernel
theorem dJ2_getChar_3b067_12 : decode cJ2_getChar_3b067 12 = .ok (.invokestatic 48, 3) := by decide +kernel
theorem dJ2_getChar_3b067_15 : decode cJ2_getChar_3b067 15 = .ok (.if_icmp .lt 13, 3) := by decide +kernel
theorem dJ2_getChar_3b067_18 : decode cJ2_getChar_3b067 18 = .ok (.new 52, 3) := by decide +kernel
theorem dJ2_getChar_3b067_21 : decode cJ2_getChar_3b067 21 = .ok (.dup, 1) := by decide +kernel
theorem dJ2_getChar_3b067_22 : decode cJ2_getChar_3b067 22 = .ok (.ldc 54, 2) := by decide +kernel
theorem dJ2_getChar_3b067_24 : decode cJ2_getChar_3b067 24 = .ok (.invokespecial 56, 3) := by decide +kernel
theorem dJ2_getChar_3b067_27 : decode cJ2_getChar_3b067 27 = .ok (.athrow, 1) := by decide +kernel
theorem dJ2_getChar_3b067_28 : decode cJ2_getChar_3b067 28 = .ok (.iload_n 1, 1) := by decide +kernel
theorem dJ2_getChar_3b067_29 : decode cJ2_getChar_3b067 29 = .ok (.iconst 1, 1) := by decide +kernel
theorem dJ2_getChar_3b067_30 : decode cJ2_getChar_3b067 30 = .ok (.ishl, 1) := by decide +kernel
theorem dJ2_getChar_3b067_31 : decode cJ2_getChar_3b067 31 = .ok (.istore_n 1, 1) := by decide +kernel
theorem dJ2_getChar_3b067_32 : decode cJ2_getChar_3b067 32 = .ok (.aload_n 0, 1) := by decide +kernel
theorem dJ2_getChar_3b067_33 : decode cJ2_getChar_3b067 33 = .ok (.iload_n 1, 1) := by decide +kernel
theorem dJ2_getChar_3b067_34 : decode cJ2_getChar_3b067 34 = .ok (.iinc 1 1, 3) := by decide +kernel
theorem dJ2_getChar_3b067_37 : decode cJ2_getChar_3b067 37 = .ok (.baload, 1) := by decide +kernel
theorem dJ2_getChar_3b067_38 : decode cJ2_getChar_3b067 38 = .ok (.sipush 255, 3) := by decide +kernel
theorem dJ2_getChar_3b067_41 : decode cJ2_getChar_3b067 41 = .ok (.iand, 1) := by decide +kernel
theorem dJ2_getChar_3b067_42 : decode cJ2_getChar_3b067 42 = .ok (.getstatic 59, 3) := by decide +kernel
theorem dJ2_getChar_3b067_45 : decode cJ2_getChar_3b067 45 = .ok (.ishl, 1) := by decide +kernel
theorem dJ2_getChar_3b067_46 : decode cJ2_getChar_3b067 46 = .ok (.aload_n 0, 1) := by decide +kernel
theorem dJ2_getChar_3b067_47 : decode cJ2_getChar_3b067 47 = .ok (.iload_n 1, 1) := by decide +kernel
theorem dJ2_getChar_3b067_48 : decode cJ2_getChar_3b067 48 = .ok (.baload, 1) := by decide +kernel
theorem dJ2_getChar_3b067_49 : decode cJ2_getChar_3b067 49 = .ok (.sipush 255, 3) := by decide +kernel
theorem dJ2_getChar_3b067_52 : decode cJ2_getChar_3b067 52 = .ok (.iand, 1) := by decide +kernel
theorem dJ2_getChar_3b067_53 : decode cJ2_getChar_3b067 53 = .ok (.getstatic 63, 3) := by decide +kernel
theorem dJ2_getChar_3b067_56 : decode cJ2_getChar_3b067 56 = .ok (.ishl, 1) := by decide +kernel
theorem dJ2_getChar_3b067_57 : decode cJ2_getChar_3b067 57 = .ok (.ior, 1) := by decide +kernel
theorem dJ2_getChar_3b067_58 : decode cJ2_getChar_3b067 58 = .ok (.i2c, 1) := by decide +kernel
theorem dJ2_getChar_3b067_59 : decode cJ2_getChar_3b067 59 = .ok (.ireturn, 1) := by decide +kernel
theorem dJ2_length_9d52b_0 : decode cJ2_length_9d52b 0 = .ok (.aload_n 0, 1) := by decide +kernel
theorem dJ2_length_9d52b_1 : decode cJ2_length_9d52b 1 = .ok (.arraylength, 1) := by decide +kernel
theorem dJ2_length_9d52b_2 : decode cJ2_length_9d52b 2 = .ok (.iconst 1, 1) := by decide +kernel
theorem dJ2_length_9d52b_3 : decode cJ2_length_9d52b 3 = .ok (.ishr, 1) := by decide +kernel
theorem dJ2_length_9d52b_4 : decode cJ2_length_9d52b 4 = .ok (.ireturn, 1) := by decide +kernel
set_option maxRecDepth 20000 in
theorem ggJ2_indexOf_4cfef_J2_indexOfChar_4cfef : GoodIn wsJ2_indexOf_4cfef wsJ2_indexOfChar_4cfef := goodIn_r _ [12, 13, 14, 11, 15, 16, 17, 18, 19, 20, 21, 22, 23, 24, 25, 26, 27, 28, 29, 30, 31, 32, 33, 34, 35, 36] (by decide +kernel) (by decide +kernel)
set_option maxRecDepth 20000 in
theorem gJ2_indexOf_4cfef_J2_indexOfChar_4cfef : GoodIn wsJ2_indexOf_4cfef (va_wsS RJ2 228 yJ2_indexOfChar_4cfef wsJ2_indexOfChar_4cfef) := goodIn_app (goodIn_of _ (by decide +kernel)) ggJ2_indexOf_4cfef_J2_indexOfChar_4cfef
set_option maxRecDepth 20000 in
theorem ggJ2_indexOf_4cfef_J2_indexOfSupplementary_4cfef : GoodIn wsJ2_indexOf_4cfef wsJ2_indexOfSupplementary_4cfef := goodIn_r _ [39, 40, 41, 42, 43, 44, 45, 46, 47, 48, 49, 50, 51, 13, 14, 11, 15, 16, 17, 18, 19, 20, 21, 22, 23, 24, 25, 26, 27, 31, 32, 33, 34, 35, 36] (by decide +kernel) (by decide +kernel)
set_option maxRecDepth 20000 in
theorem gJ2_indexOf_4cfef_J2_indexOfSupplementary_4cfef : GoodIn wsJ2_indexOf_4cfef (va_wsS RJ2 232 yJ2_indexOfSupplementary_4cfef wsJ2_indexOfSupplementary_4cfef) := goodIn_app (goodIn_of _ (by decide +kernel)) ggJ2_indexOf_4cfef_J2_indexOfSupplementary_4cfef
theorem dJ2_indexOf_4cfef_0 : decode cJ2_indexOf_4cfef 0 = .ok (.iload_n 2, 1) := by decide +kernel
theorem dJ2_indexOf_4cfef_1 : decode cJ2_indexOf_4cfef 1 = .ok (.iconst 0, 1) := by decide +kernel
theorem dJ2_indexOf_4cfef_2 : decode cJ2_indexOf_4cfef 2 = .ok (.invokestatic 224, 3) := by decide +kernel
theorem dJ2_indexOf_4cfef_5 : decode cJ2_indexOf_4cfef 5 = .ok (.istore_n 2, 1) := by decide +kernel
theorem dJ2_indexOf_4cfef_6 : decode cJ2_indexOf_4cfef 6 = .ok (.iload_n 3, 1) := by decide +kernel
theorem dJ2_indexOf_4cfef_7 : decode cJ2_indexOf_4cfef 7 = .ok (.aload_n 0, 1) := by decide +kernel
theorem dJ2_indexOf_4cfef_8 : decode cJ2_indexOf_4cfef 8 = .ok (.arraylength, 1) := by decide +kernel
theorem dJ2_indexOf_4cfef_9 : decode cJ2_indexOf_4cfef 9 = .ok (.iconst 1, 1) := by decide +kernel
theorem dJ2_indexOf_4cfef_10 : decode cJ2_indexOf_4cfef 10 = .ok (.ishr, 1) := by decide +kernel
theorem dJ2_indexOf_4cfef_11 : decode cJ2_indexOf_4cfef 11 = .ok (.invokestatic 183, 3) := by decide +kernel
theorem dJ2_indexOf_4cfef_14 : decode cJ2_indexOf_4cfef 14 = .ok (.istore_n 3, 1) := by decide +kernel
theorem dJ2_indexOf_4cfef_15 : decode cJ2_indexOf_4cfef 15 = .ok (.iload_n 2, 1) := by decide +kernel
theorem dJ2_indexOf_4cfef_16 : decode cJ2_indexOf_4cfef 16 = .ok (.iload_n 3, 1) := by decide +kernel
theorem dJ2_indexOf_4cfef_17 : decode cJ2_indexOf_4cfef 17 = .ok (.if_icmp .lt 5, 3) := by decide +kernel
theorem dJ2_indexOf_4cfef_20 : decode cJ2_indexOf_4cfef 20 = .ok (.iconst (-1), 1) := by decide +kernel
theorem dJ2_indexOf_4cfef_21 : decode cJ2_indexOf_4cfef 21 = .ok (.ireturn, 1) := by decide +kernel
theorem dJ2_indexOf_4cfef_22 : decode cJ2_indexOf_4cfef 22 = .ok (.iload_n 1, 1) := by decide +kernel
theorem dJ2_indexOf_4cfef_23 : decode cJ2_indexOf_4cfef 23 = .ok (.ldc 227, 2) := by decide +kernel
theorem dJ2_indexOf_4cfef_25 : decode cJ2_indexOf_4cfef 25 = .ok (.if_icmp .ge 11, 3) := by decide +kernel
theorem dJ2_indexOf_4cfef_28 : decode cJ2_indexOf_4cfef 28 = .ok (.aload_n 0, 1) := by decide +kernel
theorem dJ2_indexOf_4cfef_29 : decode cJ2_indexOf_4cfef 29 = .ok (.iload_n 1, 1) := by decide +kernel
theorem dJ2_indexOf_4cfef_30 : decode cJ2_indexOf_4cfef 30 = .ok (.iload_n 2, 1) := by decide +kernel
theorem dJ2_indexOf_4cfef_31 : decode cJ2_indexOf_4cfef 31 = .ok (.iload_n 3, 1) := by decide +kernel
theorem dJ2_indexOf_4cfef_32 : decode cJ2_indexOf_4cfef 32 = .ok (.invokestatic 228, 3) := by decide +kernel
theorem dJ2_indexOf_4cfef_35 : decode cJ2_indexOf_4cfef 35 = .ok (.ireturn, 1) := by decide +kernel
theorem dJ2_indexOf_4cfef_36 : decode cJ2_indexOf_4cfef 36 = .ok (.aload_n 0, 1) := by decide +kernel
theorem dJ2_indexOf_4cfef_37 : decode cJ2_indexOf_4cfef 37 = .ok (.iload_n 1, 1) := by decide +kernel
theorem dJ2_indexOf_4cfef_38 : decode cJ2_indexOf_4cfef 38 = .ok (.iload_n 2, 1) := by decide +kernel
theorem dJ2_indexOf_4cfef_39 : decode cJ2_indexOf_4cfef 39 = .ok (.iload_n 3, 1) := by decide +kernel
theorem dJ2_indexOf_4cfef_40 : decode cJ2_indexOf_4cfef 40 = .ok (.invokestatic 232, 3) := by decide +kernel
theorem dJ2_indexOf_4cfef_43 : decode cJ2_indexOf_4cfef 43 = .ok (.ireturn, 1) := by decide +kernel
set_option maxRecDepth 20000 in
theorem ggJ2_indexOfChar_4cfef_J2_checkBoundsBeginEnd_d044e : GoodIn wsJ2_indexOfChar_4cfef wsJ2_checkBoundsBeginEnd_d044e := goodIn_r _ [4, 5, 6, 3, 7, 8, 9, 10, 11, 12, 13, 14, 15, 16] (by decide +kernel) (by decide +kernel)
set_option maxRecDepth 20000 in
theorem gJ2_indexOfChar_4cfef_J2_checkBoundsBeginEnd_d044e : GoodIn wsJ2_indexOfChar_4cfef (va_wsS RJ2 96 yJ2_checkBoundsBeginEnd_d044e wsJ2_checkBoundsBeginEnd_d044e) := goodIn_app (goodIn_of _ (by decide +kernel)) ggJ2_indexOfChar_4cfef_J2_checkBoundsBeginEnd_d044e
set_option maxRecDepth 20000 in
theorem ggJ2_indexOfChar_4cfef_J2_indexOfCharUnsafe_4cfef : GoodIn wsJ2_indexOfChar_4cfef wsJ2_indexOfCharUnsafe_4cfef := goodIn_r _ [19, 20, 21, 3, 22, 23, 24, 25, 5, 6, 7] (by decide +kernel) (by decide +kernel)
set_option maxRecDepth 20000 in
theorem gJ2_indexOfChar_4cfef_J2_indexOfCharUnsafe_4cfef : GoodIn wsJ2_indexOfChar_4cfef (va_wsS RJ2 244 yJ2_indexOfCharUnsafe_4cfef wsJ2_indexOfCharUnsafe_4cfef) := goodIn_app (goodIn_of _ (by decide +kernel)) ggJ2_indexOfChar_4cfef_J2_indexOfCharUnsafe_4cfef
theorem dJ2_indexOfChar_4cfef_0 : decode cJ2_indexOfChar_4cfef 0 = .ok (.iload_n 2, 1) := by decide +kernel
theorem dJ2_indexOfChar_4cfef_1 : decode cJ2_indexOfChar_4cfef 1 = .ok (.iload_n 3, 1) := by decide +kernel
theorem dJ2_indexOfChar_4cfef_2 : decode cJ2_indexOfChar_4cfef 2 = .ok (.aload_n 0, 1) := by decide +kernel
theorem dJ2_indexOfChar_4cfef_3 : decode cJ2_indexOfChar_4cfef 3 = .ok (.invokestatic 96, 3) := by decide +kernel
theorem dJ2_indexOfChar_4cfef_6 : decode cJ2_indexOfChar_4cfef 6 = .ok (.aload_n 0, 1) := by decide +kernel
theorem dJ2_indexOfChar_4cfef_7 : decode cJ2_indexOfChar_4cfef 7 = .ok (.iload_n 1, 1) := by decide +kernel
theorem dJ2_indexOfChar_4cfef_8 : decode cJ2_indexOfChar_4cfef 8 = .ok (.iload_n 2, 1) := by decide +kernel
theorem dJ2_indexOfChar_4cfef_9 : decode cJ2_indexOfChar_4cfef 9 = .ok (.iload_n 3, 1) := by decide +kernel
theorem dJ2_indexOfChar_4cfef_10 : decode cJ2_indexOfChar_4cfef 10 = .ok (.invokestatic 244, 3) := by decide +kernel
theorem dJ2_indexOfChar_4cfef_13 : decode cJ2_indexOfChar_4cfef 13 = .ok (.ireturn, 1) := by decide +kernel
set_option maxRecDepth 20000 in
theorem ggJ2_indexOfCharUnsafe_4cfef_J2_getChar_3b067 : GoodIn wsJ2_indexOfCharUnsafe_4cfef wsJ2_getChar_3b067 := goodIn_r _ [4, 5, 6, 7, 8, 9, 3, 10] (by decide +kernel) (by decide +kernel)
set_option maxRecDepth 20000 in
theorem gJ2_indexOfCharUnsafe_4cfef_J2_getChar_3b067 : GoodIn wsJ2_indexOfCharUnsafe_4cfef (va_wsS RJ2 71 yJ2_getChar_3b067 wsJ2_getChar_3b067) := goodIn_app (goodIn_of _ (by decide +kernel)) ggJ2_indexOfCharUnsafe_4cfef_J2_getChar_3b067
theorem dJ2_indexOfCharUnsafe_4cfef_0 : decode cJ2_indexOfCharUnsafe_4cfef 0 = .ok (.iload_n 2, 1) := by decide +kernel
theorem dJ2_indexOfCharUnsafe_4cfef_1 : decode cJ2_indexOfCharUnsafe_4cfef 1 = .ok (.istore 4, 2) := by decide +kernel
theorem dJ2_indexOfCharUnsafe_4cfef_3 : decode cJ2_indexOfCharUnsafe_4cfef 3 = .ok (.iload 4, 2) := by decide +kernel
theorem dJ2_indexOfCharUnsafe_4cfef_5 : decode cJ2_indexOfCharUnsafe_4cfef 5 = .ok (.iload_n 3, 1) := by decide +kernel
theorem dJ2_indexOfCharUnsafe_4cfef_6 : decode cJ2_indexOfCharUnsafe_4cfef 6 = .ok (.if_icmp .ge 22, 3) := by decide +kernel
theorem dJ2_indexOfCharUnsafe_4cfef_9 : decode cJ2_indexOfCharUnsafe_4cfef 9 = .ok (.aload_n 0, 1) := by decide +kernel
theorem dJ2_indexOfCharUnsafe_4cfef_10 : decode cJ2_indexOfCharUnsafe_4cfef 10 = .ok (.iload 4, 2) := by decide +kernel
theorem dJ2_indexOfCharUnsafe_4cfef_12 : decode cJ2_indexOfCharUnsafe_4cfef 12 = .ok (.invokestatic 71, 3) := by decide +kernel
theorem dJ2_indexOfCharUnsafe_4cfef_15 : decode cJ2_indexOfCharUnsafe_4cfef 15 = .ok (.iload_n 1, 1) := by decide +kernel
theorem dJ2_indexOfCharUnsafe_4cfef_16 : decode cJ2_indexOfCharUnsafe_4cfef 16 = .ok (.if_icmp .ne 6, 3) := by decide +kernel
theorem dJ2_indexOfCharUnsafe_4cfef_19 : decode cJ2_indexOfCharUnsafe_4cfef 19 = .ok (.iload 4, 2) := by decide +kernel
theorem dJ2_indexOfCharUnsafe_4cfef_21 : decode cJ2_indexOfCharUnsafe_4cfef 21 = .ok (.ireturn, 1) := by decide +kernel
theorem dJ2_indexOfCharUnsafe_4cfef_22 : decode cJ2_indexOfCharUnsafe_4cfef 22 = .ok (.iinc 4 1, 3) := by decide +kernel
theorem dJ2_indexOfCharUnsafe_4cfef_25 : decode cJ2_indexOfCharUnsafe_4cfef 25 = .ok (.goto (-22), 3) := by decide +kernel
theorem dJ2_indexOfCharUnsafe_4cfef_28 : decode cJ2_indexOfCharUnsafe_4cfef 28 = .ok (.iconst (-1), 1) := by decide +kernel
theorem dJ2_indexOfCharUnsafe_4cfef_29 : decode cJ2_indexOfCharUnsafe_4cfef 29 = .ok (.ireturn, 1) := by decide +kernel
set_option maxRecDepth 20000 in
theorem ggJ2_indexOfSupplementary_4cfef_J11_isValidCodePoint_9a6ad : GoodIn wsJ2_indexOfSupplementary_4cfef wsJ11_isValidCodePoint_9a6ad := goodIn_r _ [4] (by decide +kernel) (by decide +kernel)
set_option maxRecDepth 20000 in
theorem gJ2_indexOfSupplementary_4cfef_J11_isValidCodePoint_9a6ad : GoodIn wsJ2_indexOfSupplementary_4cfef (va_wsS RJ2 164 yJ11_isValidCodePoint_9a6ad wsJ11_isValidCodePoint_9a6ad) := goodIn_app (goodIn_of _ (by decide +kernel)) ggJ2_indexOfSupplementary_4cfef_J11_isValidCodePoint_9a6ad
set_option maxRecDepth 20000 in
theorem ggJ2_indexOfSupplementary_4cfef_J11_highSurrogate_5068e : GoodIn wsJ2_indexOfSupplementary_4cfef wsJ11_highSurrogate_5068e := goodIn_r _ [7, 8] (by decide +kernel) (by decide +kernel)
set_option maxRecDepth 20000 in
theorem gJ2_indexOfSupplementary_4cfef_J11_highSurrogate_5068e : GoodIn wsJ2_indexOfSupplementary_4cfef (va_wsS RJ2 157 yJ11_highSurrogate_5068e wsJ11_highSurrogate_5068e) := goodIn_app (goodIn_of _ (by decide +kernel)) ggJ2_indexOfSupplementary_4cfef_J11_highSurrogate_5068e
set_option maxRecDepth 20000 in
theorem ggJ2_indexOfSupplementary_4cfef_J11_lowSurrogate_5068e : GoodIn wsJ2_indexOfSupplementary_4cfef wsJ11_lowSurrogate_5068e := goodIn_r _ [11, 12] (by decide +kernel) (by decide +kernel)
set_option maxRecDepth 20000 in
theorem gJ2_indexOfSupplementary_4cfef_J11_lowSurrogate_5068e : GoodIn wsJ2_indexOfSupplementary_4cfef (va_wsS RJ2 161 yJ11_lowSurrogate_5068e wsJ11_lowSurrogate_5068e) := goodIn_app (goodIn_of _ (by decide +kernel)) ggJ2_indexOfSupplementary_4cfef_J11_lowSurrogate_5068e
set_option maxRecDepth 20000 in
theorem ggJ2_indexOfSupplementary_4cfef_J2_checkBoundsBeginEnd_d044e : GoodIn wsJ2_indexOfSupplementary_4cfef wsJ2_checkBoundsBeginEnd_d044e := goodIn_r _ [16, 17, 18, 15, 19, 20, 21, 22, 23, 24, 25, 26, 27, 28] (by decide +kernel) (by decide +kernel)
set_option maxRecDepth 20000 in
theorem gJ2_indexOfSupplementary_4cfef_J2_checkBoundsBeginEnd_d044e : GoodIn wsJ2_indexOfSupplementary_4cfef (va_wsS RJ2 96 yJ2_checkBoundsBeginEnd_d044e wsJ2_checkBoundsBeginEnd_d044e) := goodIn_app (goodIn_of _ (by decide +kernel)) ggJ2_indexOfSupplementary_4cfef_J2_checkBoundsBeginEnd_d044e
set_option maxRecDepth 20000 in
theorem ggJ2_indexOfSupplementary_4cfef_J2_getChar_3b067 : GoodIn wsJ2_indexOfSupplementary_4cfef wsJ2_getChar_3b067 := goodIn_r _ [31, 32, 33, 34, 17, 18, 15, 19] (by decide +kernel) (by decide +kernel)
set_option maxRecDepth 20000 in
theorem gJ2_indexOfSupplementary_4cfef_J2_getChar_3b067 : GoodIn wsJ2_indexOfSupplementary_4cfef (va_wsS RJ2 71 yJ2_getChar_3b067 wsJ2_getChar_3b067) := goodIn_app (goodIn_of _ (by decide +kernel)) ggJ2_indexOfSupplementary_4cfef_J2_getChar_3b067
theorem dJ2_indexOfSupplementary_4cfef_0 : decode cJ2_indexOfSupplementary_4cfef 0 = .ok (.iload_n 1, 1) := by decide +kernel
theorem dJ2_indexOfSupplementary_4cfef_1 : decode cJ2_indexOfSupplementary_4cfef 1 = .ok (.invokestatic 164, 3) := by decide +kernel
theorem dJ2_indexOfSupplementary_4cfef_4 : decode cJ2_indexOfSupplementary_4cfef 4 = .ok (.ifCond .eq 65, 3) := by decide +kernel
theorem dJ2_indexOfSupplementary_4cfef_7 : decode cJ2_indexOfSupplementary_4cfef 7 = .ok (.iload_n 1, 1) := by decide +kernel
theorem dJ2_indexOfSupplementary_4cfef_8 : decode cJ2_indexOfSupplementary_4cfef 8 = .ok (.invokestatic 157, 3) := by decide +kernel
theorem dJ2_indexOfSupplementary_4cfef_11 : decode cJ2_indexOfSupplementary_4cfef 11 = .ok (.istore 4, 2) := by decide +kernel
theorem dJ2_indexOfSupplementary_4cfef_13 : decode cJ2_indexOfSupplementary_4cfef 13 = .ok (.iload_n 1, 1) := by decide +kernel
theorem dJ2_indexOfSupplementary_4cfef_14 : decode cJ2_indexOfSupplementary_4cfef 14 = .ok (.invokestatic 161, 3) := by decide +kernel
theorem dJ2_indexOfSupplementary_4cfef_17 : decode cJ2_indexOfSupplementary_4cfef 17 = .ok (.istore 5, 2) := by decide +kernel
theorem dJ2_indexOfSupplementary_4cfef_19 : decode cJ2_indexOfSupplementary_4cfef 19 = .ok (.iload_n 2, 1) := by decide +kernel
theorem dJ2_indexOfSupplementary_4cfef_20 : decode cJ2_indexOfSupplementary_4cfef 20 = .ok (.iload_n 3, 1) := by decide +kernel
theorem dJ2_indexOfSupplementary_4cfef_21 : decode cJ2_indexOfSupplementary_4cfef 21 = .ok (.aload_n 0, 1) := by decide +kernel
theorem dJ2_indexOfSupplementary_4cfef_22 : decode cJ2_indexOfSupplementary_4cfef 22 = .ok (.invokestatic 96, 3) := by decide +kernel
theorem dJ2_indexOfSupplementary_4cfef_25 : decode cJ2_indexOfSupplementary_4cfef 25 = .ok (.iload_n 2, 1) := by decide +kernel
theorem dJ2_indexOfSupplementary_4cfef_26 : decode cJ2_indexOfSupplementary_4cfef 26 = .ok (.istore 6, 2) := by decide +kernel
theorem dJ2_indexOfSupplementary_4cfef_28 : decode cJ2_indexOfSupplementary_4cfef 28 = .ok (.iload 6, 2) := by decide +kernel
theorem dJ2_indexOfSupplementary_4cfef_30 : decode cJ2_indexOfSupplementary_4cfef 30 = .ok (.iload_n 3, 1) := by decide +kernel
theorem dJ2_indexOfSupplementary_4cfef_31 : decode cJ2_indexOfSupplementary_4cfef 31 = .ok (.iconst 1, 1) := by decide +kernel
theorem dJ2_indexOfSupplementary_4cfef_32 : decode cJ2_indexOfSupplementary_4cfef 32 = .ok (.isub, 1) := by decide +kernel
theorem dJ2_indexOfSupplementary_4cfef_33 : decode cJ2_indexOfSupplementary_4cfef 33 = .ok (.if_icmp .ge 36, 3) := by decide +kernel
theorem dJ2_indexOfSupplementary_4cfef_36 : decode cJ2_indexOfSupplementary_4cfef 36 = .ok (.aload_n 0, 1) := by decide +kernel
theorem dJ2_indexOfSupplementary_4cfef_37 : decode cJ2_indexOfSupplementary_4cfef 37 = .ok (.iload 6, 2) := by decide +kernel
theorem dJ2_indexOfSupplementary_4cfef_39 : decode cJ2_indexOfSupplementary_4cfef 39 = .ok (.invokestatic 71, 3) := by decide +kernel
theorem dJ2_indexOfSupplementary_4cfef_42 : decode cJ2_indexOfSupplementary_4cfef 42 = .ok (.iload 4, 2) := by decide +kernel
theorem dJ2_indexOfSupplementary_4cfef_44 : decode cJ2_indexOfSupplementary_4cfef 44 = .ok (.if_icmp .ne 19, 3) := by decide +kernel
theorem dJ2_indexOfSupplementary_4cfef_47 : decode cJ2_indexOfSupplementary_4cfef 47 = .ok (.aload_n 0, 1) := by decide +kernel
theorem dJ2_indexOfSupplementary_4cfef_48 : decode cJ2_indexOfSupplementary_4cfef 48 = .ok (.iload 6, 2) := by decide +kernel
theorem dJ2_indexOfSupplementary_4cfef_50 : decode cJ2_indexOfSupplementary_4cfef 50 = .ok (.iconst 1, 1) := by decide +kernel
theorem dJ2_indexOfSupplementary_4cfef_51 : decode cJ2_indexOfSupplementary_4cfef 51 = .ok (.iadd, 1) := by decide +kernel
theorem dJ2_indexOfSupplementary_4cfef_52 : decode cJ2_indexOfSupplementary_4cfef 52 = .ok (.invokestatic 71, 3) := by decide +kernel
theorem dJ2_indexOfSupplementary_4cfef_55 : decode cJ2_indexOfSupplementary_4cfef 55 = .ok (.iload 5, 2) := by decide +kernel
theorem dJ2_indexOfSupplementary_4cfef_57 : decode cJ2_indexOfSupplementary_4cfef 57 = .ok (.if_icmp .ne 6, 3) := by decide +kernel
theorem dJ2_indexOfSupplementary_4cfef_60 : decode cJ2_indexOfSupplementary_4cfef 60 = .ok (.iload 6, 2) := by decide +kernel
theorem dJ2_indexOfSupplementary_4cfef_62 : decode cJ2_indexOfSupplementary_4cfef 62 = .ok (.ireturn, 1) := by decide +kernel
theorem dJ2_indexOfSupplementary_4cfef_63 : decode cJ2_indexOfSupplementary_4cfef 63 = .ok (.iinc 6 1, 3) := by decide +kernel
theorem dJ2_indexOfSupplementary_4cfef_66 : decode cJ2_indexOfSupplementary_4cfef 66 = .ok (.goto (-38), 3) := by decide +kernel
theorem dJ2_indexOfSupplementary_4cfef_69 : decode cJ2_indexOfSupplementary_4cfef 69 = .ok (.iconst (-1), 1) := by decide +kernel
theorem dJ2_indexOfSupplementary_4cfef_70 : decode cJ2_indexOfSupplementary_4cfef 70 = .ok (.ireturn, 1) := by decide +kernel
set_option maxRecDepth 20000 in
theorem ggJ2_checkBoundsBeginEnd_d044e_J2_length_9d52b : GoodIn wsJ2_checkBoundsBeginEnd_d044e wsJ2_length_9d52b := goodIn_r _ [4] (by decide +kernel) (by decide +kernel)
set_option maxRecDepth 20000 in
theorem gJ2_checkBoundsBeginEnd_d044e_J2_length_9d52b : GoodIn wsJ2_checkBoundsBeginEnd_d044e (va_wsS RJ2 48 yJ2_length_9d52b wsJ2_length_9d52b) := goodIn_app (goodIn_of _ (by decide +kernel)) ggJ2_checkBoundsBeginEnd_d044e_J2_length_9d52b
set_option maxRecDepth 20000 in
theorem ggJ2_checkBoundsBeginEnd_d044e_J0_checkBoundsBeginEnd_23922 : GoodIn wsJ2_checkBoundsBeginEnd_d044e wsJ0_checkBoundsBeginEnd_23922 := goodIn_r _ [8, 9, 10, 11, 12, 13] (by decide +kernel) (by decide +kernel)
set_option maxRecDepth 20000 in
theorem gJ2_checkBoundsBeginEnd_d044e_J0_checkBoundsBeginEnd_23922 : GoodIn wsJ2_checkBoundsBeginEnd_d044e (va_wsS RJ2 241 yJ0_checkBoundsBeginEnd_23922 wsJ0_checkBoundsBeginEnd_23922) := goodIn_app (goodIn_of _ (by decide +kernel)) ggJ2_checkBoundsBeginEnd_d044e_J0_checkBoundsBeginEnd_23922
theorem dJ2_checkBoundsBeginEnd_d044e_0 : decode cJ2_checkBoundsBeginEnd_d044e 0 = .ok (.iload_n 0, 1) := by decide +kernel
theorem dJ2_checkBoundsBeginEnd_d044e_1 : decode cJ2_checkBoundsBeginEnd_d044e 1 = .ok (.iload_n 1, 1) := by decide +kernel
theorem dJ2_checkBoundsBeginEnd_d044e_2 : decode cJ2_checkBoundsBeginEnd_d044e 2 = .ok (.aload_n 2, 1) := by decide +kernel
theorem dJ2_checkBoundsBeginEnd_d044e_3 : decode cJ2_checkBoundsBeginEnd_d044e 3 = .ok (.invokestatic 48, 3) := by decide +kernel
theorem dJ2_checkBoundsBeginEnd_d044e_6 : decode cJ2_checkBoundsBeginEnd_d044e 6 = .ok (.invokestatic 241, 3) := by decide +kernel
theorem dJ2_checkBoundsBeginEnd_d044e_9 : decode cJ2_checkBoundsBeginEnd_d044e 9 = .ok (.return_, 1) := by decide +kernel
theorem dJ7_fill_53178_0 : decode cJ7_fill_53178 0 = .ok (.iconst 0, 1) := by decide +kernel
theorem dJ7_fill_53178_1 : decode cJ7_fill_53178 1 = .ok (.istore_n 2, 1) := by decide +kernel
theorem dJ7_fill_53178_2 : decode cJ7_fill_53178 2 = .ok (.aload_n 0, 1) := by decide +kernel
theorem dJ7_fill_53178_3 : decode cJ7_fill_53178 3 = .ok (.arraylength, 1) := by decide +kernel
theorem dJ7_fill_53178_4 : decode cJ7_fill_53178 4 = .ok (.istore_n 3, 1) := by decide +kernel
theorem dJ7_fill_53178_5 : decode cJ7_fill_53178 5 = .ok (.iload_n 2, 1) := by decide +kernel
theorem dJ7_fill_53178_6 : decode cJ7_fill_53178 6 = .ok (.iload_n 3, 1) := by decide +kernel
theorem dJ7_fill_53178_7 : decode cJ7_fill_53178 7 = .ok (.if_icmp .ge 13, 3) := by decide +kernel
theorem dJ7_fill_53178_10 : decode cJ7_fill_53178 10 = .ok (.aload_n 0, 1) := by decide +kernel
theorem dJ7_fill_53178_11 : decode cJ7_fill_53178 11 = .ok (.iload_n 2, 1) := by decide +kernel
theorem dJ7_fill_53178_12 : decode cJ7_fill_53178 12 = .ok (.iload_n 1, 1) := by decide +kernel
theorem dJ7_fill_53178_13 : decode cJ7_fill_53178 13 = .ok (.iastore, 1) := by decide +kernel
theorem dJ7_fill_53178_14 : decode cJ7_fill_53178 14 = .ok (.iinc 2 1, 3) := by decide +kernel
theorem dJ7_fill_53178_17 : decode cJ7_fill_53178 17 = .ok (.goto (-12), 3) := by decide +kernel
theorem dJ7_fill_53178_20 : decode cJ7_fill_53178 20 = .ok (.return_, 1) := by decide +kernel
theorem dJ3_checkFromToIndex_8c36e_0 : decode cJ3_checkFromToIndex_8c36e 0 = .ok (.iload_n 0, 1) := by decide +kernel
theorem dJ3_checkFromToIndex_8c36e_1 : decode cJ3_checkFromToIndex_8c36e 1 = .ok (.ifCond .lt 13, 3) := by decide +kernel
theorem dJ3_checkFromToIndex_8c36e_4 : decode cJ3_checkFromToIndex_8c36e 4 = .ok (.iload_n 0, 1) := by decide +kernel
theorem dJ3_checkFromToIndex_8c36e_5 : decode cJ3_checkFromToIndex_8c36e 5 = .ok (.iload_n 1, 1) := by decide +kernel
theorem dJ3_checkFromToIndex_8c36e_6 : decode cJ3_checkFromToIndex_8c36e 6 = .ok (.if_icmp .gt 8, 3) := by decide +kernel
theorem dJ3_checkFromToIndex_8c36e_9 : decode cJ3_checkFromToIndex_8c36e 9 = .ok (.iload_n 1, 1) := by decide +kernel
theorem dJ3_checkFromToIndex_8c36e_10 : decode cJ3_checkFromToIndex_8c36e 10 = .ok (.iload_n 2, 1) := by decide +kernel
theorem dJ3_checkFromToIndex_8c36e_11 : decode cJ3_checkFromToIndex_8c36e 11 = .ok (.if_icmp .le 11, 3) := by decide +kernel
theorem dJ3_checkFromToIndex_8c36e_14 : decode cJ3_checkFromToIndex_8c36e 14 = .ok (.aload_n 3, 1) := by decide +kernel
theorem dJ3_checkFromToIndex_8c36e_15 : decode cJ3_checkFromToIndex_8c36e 15 = .ok (.iload_n 0, 1) := by decide +kernel
theorem dJ3_checkFromToIndex_8c36e_16 : decode cJ3_checkFromToIndex_8c36e 16 = .ok (.iload_n 1, 1) := by decide +kernel
theorem dJ3_checkFromToIndex_8c36e_17 : decode cJ3_checkFromToIndex_8c36e 17 = .ok (.iload_n 2, 1) := by decide +kernel
theorem dJ3_checkFromToIndex_8c36e_18 : decode cJ3_checkFromToIndex_8c36e 18 = .ok (.invokestatic 99, 3) := by decide +kernel
theorem dJ3_checkFromToIndex_8c36e_21 : decode cJ3_checkFromToIndex_8c36e 21 = .ok (.athrow, 1) := by decide +kernel
theorem dJ3_checkFromToIndex_8c36e_22 : decode cJ3_checkFromToIndex_8c36e 22 = .ok (.iload_n 0, 1) := by decide +kernel
theorem dJ3_checkFromToIndex_8c36e_23 : decode cJ3_checkFromToIndex_8c36e 23 = .ok (.ireturn, 1) := by decide +kernel
abbrev vwCl : List vw_C := [(RX0, TX0, 11), (RX1, TX1, 3), (RX2, TX2, 4), (RX3, TX3, 5), (RX4, TX4, 3), (RX5, TX5, 3), (RX6, TX6, 2), (RX7, TX7, 2), (RX8, TX8, 10), (RX9, TX9, 8), (RX10, TX10, 9), (RX11, TX11, 16), (RX12, TX12, 41)]

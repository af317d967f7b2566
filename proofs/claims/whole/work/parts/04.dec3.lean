theorem dX12_near_0 : decode cX12_near 0 = .ok (.aload_n 0, 1) := by decide +kernel
theorem dX12_near_1 : decode cX12_near 1 = .ok (.iconst 0, 1) := by decide +kernel
theorem dX12_near_2 : decode cX12_near 2 = .ok (.putfield 87, 3) := by decide +kernel
theorem dX12_near_5 : decode cX12_near 5 = .ok (.iload_n 1, 1) := by decide +kernel
theorem dX12_near_6 : decode cX12_near 6 = .ok (.ifCond .lt 13, 3) := by decide +kernel
theorem dX12_near_9 : decode cX12_near 9 = .ok (.iload_n 2, 1) := by decide +kernel
theorem dX12_near_10 : decode cX12_near 10 = .ok (.ifCond .lt 9, 3) := by decide +kernel
theorem dX12_near_13 : decode cX12_near 13 = .ok (.iload_n 2, 1) := by decide +kernel
theorem dX12_near_14 : decode cX12_near 14 = .ok (.bipush 24, 2) := by decide +kernel
theorem dX12_near_16 : decode cX12_near 16 = .ok (.if_icmp .le 6, 3) := by decide +kernel
theorem dX12_near_19 : decode cX12_near 19 = .ok (.bipush (-2), 2) := by decide +kernel
theorem dX12_near_21 : decode cX12_near 21 = .ok (.ireturn, 1) := by decide +kernel
theorem dX12_near_22 : decode cX12_near 22 = .ok (.aload_n 0, 1) := by decide +kernel
theorem dX12_near_23 : decode cX12_near 23 = .ok (.iconst 0, 1) := by decide +kernel
theorem dX12_near_24 : decode cX12_near 24 = .ok (.putfield 204, 3) := by decide +kernel
theorem dX12_near_27 : decode cX12_near 27 = .ok (.bipush 25, 2) := by decide +kernel
theorem dX12_near_29 : decode cX12_near 29 = .ok (.aload_n 0, 1) := by decide +kernel
theorem dX12_near_30 : decode cX12_near 30 = .ok (.getfield 18, 3) := by decide +kernel
theorem dX12_near_33 : decode cX12_near 33 = .ok (.bipush 8, 2) := by decide +kernel
theorem dX12_near_35 : decode cX12_near 35 = .ok (.iaload, 1) := by decide +kernel
theorem dX12_near_36 : decode cX12_near 36 = .ok (.imul, 1) := by decide +kernel
theorem dX12_near_37 : decode cX12_near 37 = .ok (.istore_n 3, 1) := by decide +kernel
theorem dX12_near_38 : decode cX12_near 38 = .ok (.iconst 0, 1) := by decide +kernel
theorem dX12_near_39 : decode cX12_near 39 = .ok (.istore 4, 2) := by decide +kernel
theorem dX12_near_41 : decode cX12_near 41 = .ok (.iload 4, 2) := by decide +kernel
theorem dX12_near_43 : decode cX12_near 43 = .ok (.aload_n 0, 1) := by decide +kernel
theorem dX12_near_44 : decode cX12_near 44 = .ok (.getfield 90, 3) := by decide +kernel
theorem dX12_near_47 : decode cX12_near 47 = .ok (.if_icmp .ge 237, 3) := by decide +kernel
theorem dX12_near_50 : decode cX12_near 50 = .ok (.iconst 0, 1) := by decide +kernel
theorem dX12_near_51 : decode cX12_near 51 = .ok (.istore 5, 2) := by decide +kernel
theorem dX12_near_53 : decode cX12_near 53 = .ok (.iload 5, 2) := by decide +kernel
theorem dX12_near_55 : decode cX12_near 55 = .ok (.aload_n 0, 1) := by decide +kernel
theorem dX12_near_56 : decode cX12_near 56 = .ok (.getfield 18, 3) := by decide +kernel
theorem dX12_near_59 : decode cX12_near 59 = .ok (.iload 4, 2) := by decide +kernel
theorem dX12_near_61 : decode cX12_near 61 = .ok (.iaload, 1) := by decide +kernel
theorem dX12_near_62 : decode cX12_near 62 = .ok (.if_icmp .gt 18, 3) := by decide +kernel
theorem dX12_near_65 : decode cX12_near 65 = .ok (.aload_n 0, 1) := by decide +kernel
theorem dX12_near_66 : decode cX12_near 66 = .ok (.getfield 56, 3) := by decide +kernel
theorem dX12_near_69 : decode cX12_near 69 = .ok (.iload 5, 2) := by decide +kernel
theorem dX12_near_71 : decode cX12_near 71 = .ok (.ldc 225, 2) := by decide +kernel
theorem dX12_near_73 : decode cX12_near 73 = .ok (.iastore, 1) := by decide +kernel
theorem dX12_near_74 : decode cX12_near 74 = .ok (.iinc 5 1, 3) := by decide +kernel
theorem dX12_near_77 : decode cX12_near 77 = .ok (.goto (-24), 3) := by decide +kernel
theorem dX12_near_80 : decode cX12_near 80 = .ok (.iconst 0, 1) := by decide +kernel
theorem dX12_near_81 : decode cX12_near 81 = .ok (.istore 5, 2) := by decide +kernel
theorem dX12_near_83 : decode cX12_near 83 = .ok (.iload 5, 2) := by decide +kernel
theorem dX12_near_85 : decode cX12_near 85 = .ok (.iload_n 2, 1) := by decide +kernel
theorem dX12_near_86 : decode cX12_near 86 = .ok (.if_icmp .gt 131, 3) := by decide +kernel
theorem dX12_near_89 : decode cX12_near 89 = .ok (.iload 5, 2) := by decide +kernel
theorem dX12_near_91 : decode cX12_near 91 = .ok (.ineg, 1) := by decide +kernel
theorem dX12_near_92 : decode cX12_near 92 = .ok (.istore 6, 2) := by decide +kernel
theorem dX12_near_94 : decode cX12_near 94 = .ok (.iload 6, 2) := by decide +kernel
theorem dX12_near_96 : decode cX12_near 96 = .ok (.iload 5, 2) := by decide +kernel
theorem dX12_near_98 : decode cX12_near 98 = .ok (.if_icmp .gt 113, 3) := by decide +kernel
theorem dX12_near_101 : decode cX12_near 101 = .ok (.aload_n 0, 1) := by decide +kernel
theorem dX12_near_102 : decode cX12_near 102 = .ok (.iload 4, 2) := by decide +kernel
theorem dX12_near_104 : decode cX12_near 104 = .ok (.iload 6, 2) := by decide +kernel
theorem dX12_near_106 : decode cX12_near 106 = .ok (.invokevirtual 242, 3) := by decide +kernel
theorem dX12_near_109 : decode cX12_near 109 = .ok (.iconst 0, 1) := by decide +kernel
theorem dX12_near_110 : decode cX12_near 110 = .ok (.istore 7, 2) := by decide +kernel
theorem dX12_near_112 : decode cX12_near 112 = .ok (.iload 7, 2) := by decide +kernel
theorem dX12_near_114 : decode cX12_near 114 = .ok (.aload_n 0, 1) := by decide +kernel
theorem dX12_near_115 : decode cX12_near 115 = .ok (.getfield 18, 3) := by decide +kernel
theorem dX12_near_118 : decode cX12_near 118 = .ok (.iload 4, 2) := by decide +kernel
theorem dX12_near_120 : decode cX12_near 120 = .ok (.iaload, 1) := by decide +kernel
theorem dX12_near_121 : decode cX12_near 121 = .ok (.if_icmp .gt 69, 3) := by decide +kernel
theorem dX12_near_124 : decode cX12_near 124 = .ok (.aload_n 0, 1) := by decide +kernel
theorem dX12_near_125 : decode cX12_near 125 = .ok (.getfield 50, 3) := by decide +kernel
theorem dX12_near_128 : decode cX12_near 128 = .ok (.iload_n 3, 1) := by decide +kernel
theorem dX12_near_129 : decode cX12_near 129 = .ok (.iload 7, 2) := by decide +kernel
theorem dX12_near_131 : decode cX12_near 131 = .ok (.iadd, 1) := by decide +kernel
theorem dX12_near_132 : decode cX12_near 132 = .ok (.iaload, 1) := by decide +kernel
theorem dX12_near_133 : decode cX12_near 133 = .ok (.aload_n 0, 1) := by decide +kernel
theorem dX12_near_134 : decode cX12_near 134 = .ok (.getfield 56, 3) := by decide +kernel
theorem dX12_near_137 : decode cX12_near 137 = .ok (.iload 7, 2) := by decide +kernel
theorem dX12_near_139 : decode cX12_near 139 = .ok (.iaload, 1) := by decide +kernel
theorem dX12_near_140 : decode cX12_near 140 = .ok (.if_icmp .ge 44, 3) := by decide +kernel
theorem dX12_near_143 : decode cX12_near 143 = .ok (.aload_n 0, 1) := by decide +kernel
theorem dX12_near_144 : decode cX12_near 144 = .ok (.getfield 56, 3) := by decide +kernel
theorem dX12_near_147 : decode cX12_near 147 = .ok (.iload 7, 2) := by decide +kernel
theorem dX12_near_149 : decode cX12_near 149 = .ok (.aload_n 0, 1) := by decide +kernel
theorem dX12_near_150 : decode cX12_near 150 = .ok (.getfield 50, 3) := by decide +kernel
theorem dX12_near_153 : decode cX12_near 153 = .ok (.iload_n 3, 1) := by decide +kernel
theorem dX12_near_154 : decode cX12_near 154 = .ok (.iload 7, 2) := by decide +kernel
theorem dX12_near_156 : decode cX12_near 156 = .ok (.iadd, 1) := by decide +kernel
theorem dX12_near_157 : decode cX12_near 157 = .ok (.iaload, 1) := by decide +kernel
theorem dX12_near_158 : decode cX12_near 158 = .ok (.iastore, 1) := by decide +kernel
theorem dX12_near_159 : decode cX12_near 159 = .ok (.aload_n 0, 1) := by decide +kernel
theorem dX12_near_160 : decode cX12_near 160 = .ok (.getfield 59, 3) := by decide +kernel
theorem dX12_near_163 : decode cX12_near 163 = .ok (.iload 7, 2) := by decide +kernel
theorem dX12_near_165 : decode cX12_near 165 = .ok (.aload_n 0, 1) := by decide +kernel
theorem dX12_near_166 : decode cX12_near 166 = .ok (.getfield 53, 3) := by decide +kernel
theorem dX12_near_169 : decode cX12_near 169 = .ok (.iload_n 3, 1) := by decide +kernel
theorem dX12_near_170 : decode cX12_near 170 = .ok (.iload 7, 2) := by decide +kernel
theorem dX12_near_172 : decode cX12_near 172 = .ok (.iadd, 1) := by decide +kernel
theorem dX12_near_173 : decode cX12_near 173 = .ok (.iaload, 1) := by decide +kernel
theorem dX12_near_174 : decode cX12_near 174 = .ok (.iastore, 1) := by decide +kernel
theorem dX12_near_175 : decode cX12_near 175 = .ok (.aload_n 0, 1) := by decide +kernel
theorem dX12_near_176 : decode cX12_near 176 = .ok (.getfield 62, 3) := by decide +kernel
theorem dX12_near_179 : decode cX12_near 179 = .ok (.iload 7, 2) := by decide +kernel
theorem dX12_near_181 : decode cX12_near 181 = .ok (.iload 6, 2) := by decide +kernel
theorem dX12_near_183 : decode cX12_near 183 = .ok (.iastore, 1) := by decide +kernel
theorem dX12_near_184 : decode cX12_near 184 = .ok (.iinc 7 1, 3) := by decide +kernel
theorem dX12_near_187 : decode cX12_near 187 = .ok (.goto (-75), 3) := by decide +kernel
theorem dX12_near_190 : decode cX12_near 190 = .ok (.iload 6, 2) := by decide +kernel
theorem dX12_near_192 : decode cX12_near 192 = .ok (.iload 5, 2) := by decide +kernel
theorem dX12_near_194 : decode cX12_near 194 = .ok (.ifCond .ne 7, 3) := by decide +kernel
theorem dX12_near_197 : decode cX12_near 197 = .ok (.iconst 1, 1) := by decide +kernel
theorem dX12_near_198 : decode cX12_near 198 = .ok (.goto 7, 3) := by decide +kernel
theorem dX12_near_201 : decode cX12_near 201 = .ok (.iconst 2, 1) := by decide +kernel
theorem dX12_near_202 : decode cX12_near 202 = .ok (.iload 5, 2) := by decide +kernel
theorem dX12_near_204 : decode cX12_near 204 = .ok (.imul, 1) := by decide +kernel
theorem dX12_near_205 : decode cX12_near 205 = .ok (.iadd, 1) := by decide +kernel
theorem dX12_near_206 : decode cX12_near 206 = .ok (.istore 6, 2) := by decide +kernel
theorem dX12_near_208 : decode cX12_near 208 = .ok (.goto (-114), 3) := by decide +kernel
theorem dX12_near_211 : decode cX12_near 211 = .ok (.iinc 5 1, 3) := by decide +kernel
theorem dX12_near_214 : decode cX12_near 214 = .ok (.goto (-131), 3) := by decide +kernel
theorem dX12_near_217 : decode cX12_near 217 = .ok (.iconst 0, 1) := by decide +kernel
theorem dX12_near_218 : decode cX12_near 218 = .ok (.istore 5, 2) := by decide +kernel
theorem dX12_near_220 : decode cX12_near 220 = .ok (.iload 5, 2) := by decide +kernel
theorem dX12_near_222 : decode cX12_near 222 = .ok (.aload_n 0, 1) := by decide +kernel
theorem dX12_near_223 : decode cX12_near 223 = .ok (.getfield 18, 3) := by decide +kernel
theorem dX12_near_226 : decode cX12_near 226 = .ok (.iload 4, 2) := by decide +kernel
theorem dX12_near_228 : decode cX12_near 228 = .ok (.iaload, 1) := by decide +kernel
theorem dX12_near_229 : decode cX12_near 229 = .ok (.if_icmp .gt 49, 3) := by decide +kernel
theorem dX12_near_232 : decode cX12_near 232 = .ok (.aload_n 0, 1) := by decide +kernel
theorem dX12_near_233 : decode cX12_near 233 = .ok (.getfield 56, 3) := by decide +kernel
theorem dX12_near_236 : decode cX12_near 236 = .ok (.iload 5, 2) := by decide +kernel
theorem dX12_near_238 : decode cX12_near 238 = .ok (.iaload, 1) := by decide +kernel
theorem dX12_near_239 : decode cX12_near 239 = .ok (.iload_n 1, 1) := by decide +kernel
theorem dX12_near_240 : decode cX12_near 240 = .ok (.if_icmp .gt 32, 3) := by decide +kernel
theorem dX12_near_243 : decode cX12_near 243 = .ok (.aload_n 0, 1) := by decide +kernel
theorem dX12_near_244 : decode cX12_near 244 = .ok (.iload 4, 2) := by decide +kernel
theorem dX12_near_246 : decode cX12_near 246 = .ok (.aload_n 0, 1) := by decide +kernel
theorem dX12_near_247 : decode cX12_near 247 = .ok (.getfield 59, 3) := by decide +kernel
theorem dX12_near_250 : decode cX12_near 250 = .ok (.iload 5, 2) := by decide +kernel
theorem dX12_near_252 : decode cX12_near 252 = .ok (.iaload, 1) := by decide +kernel
theorem dX12_near_253 : decode cX12_near 253 = .ok (.iload 5, 2) := by decide +kernel
theorem dX12_near_255 : decode cX12_near 255 = .ok (.aload_n 0, 1) := by decide +kernel
theorem dX12_near_256 : decode cX12_near 256 = .ok (.getfield 56, 3) := by decide +kernel
theorem dX12_near_259 : decode cX12_near 259 = .ok (.iload 5, 2) := by decide +kernel
theorem dX12_near_261 : decode cX12_near 261 = .ok (.iaload, 1) := by decide +kernel
theorem dX12_near_262 : decode cX12_near 262 = .ok (.aload_n 0, 1) := by decide +kernel
theorem dX12_near_263 : decode cX12_near 263 = .ok (.getfield 62, 3) := by decide +kernel
theorem dX12_near_266 : decode cX12_near 266 = .ok (.iload 5, 2) := by decide +kernel
theorem dX12_near_268 : decode cX12_near 268 = .ok (.iaload, 1) := by decide +kernel
theorem dX12_near_269 : decode cX12_near 269 = .ok (.invokevirtual 216, 3) := by decide +kernel
theorem dX12_near_272 : decode cX12_near 272 = .ok (.iinc 5 1, 3) := by decide +kernel
theorem dX12_near_275 : decode cX12_near 275 = .ok (.goto (-55), 3) := by decide +kernel
theorem dX12_near_278 : decode cX12_near 278 = .ok (.iinc 4 1, 3) := by decide +kernel
theorem dX12_near_281 : decode cX12_near 281 = .ok (.goto (-240), 3) := by decide +kernel
theorem dX12_near_284 : decode cX12_near 284 = .ok (.aload_n 0, 1) := by decide +kernel
theorem dX12_near_285 : decode cX12_near 285 = .ok (.getfield 204, 3) := by decide +kernel
theorem dX12_near_288 : decode cX12_near 288 = .ok (.ireturn, 1) := by decide +kernel
theorem dX12_found_0 : decode cX12_found 0 = .ok (.aload_n 0, 1) := by decide +kernel
theorem dX12_found_1 : decode cX12_found 1 = .ok (.iload_n 1, 1) := by decide +kernel
theorem dX12_found_2 : decode cX12_found 2 = .ok (.ifCond .lt 24, 3) := by decide +kernel
theorem dX12_found_5 : decode cX12_found 5 = .ok (.iload_n 1, 1) := by decide +kernel
theorem dX12_found_6 : decode cX12_found 6 = .ok (.aload_n 0, 1) := by decide +kernel
theorem dX12_found_7 : decode cX12_found 7 = .ok (.getfield 204, 3) := by decide +kernel
theorem dX12_found_10 : decode cX12_found 10 = .ok (.if_icmp .ge 16, 3) := by decide +kernel
theorem dX12_found_13 : decode cX12_found 13 = .ok (.iload_n 2, 1) := by decide +kernel
theorem dX12_found_14 : decode cX12_found 14 = .ok (.ifCond .lt 12, 3) := by decide +kernel
theorem dX12_found_17 : decode cX12_found 17 = .ok (.iload_n 2, 1) := by decide +kernel
theorem dX12_found_18 : decode cX12_found 18 = .ok (.iconst 4, 1) := by decide +kernel
theorem dX12_found_19 : decode cX12_found 19 = .ok (.if_icmp .gt 7, 3) := by decide +kernel
theorem dX12_found_22 : decode cX12_found 22 = .ok (.iconst 0, 1) := by decide +kernel
theorem dX12_found_23 : decode cX12_found 23 = .ok (.goto 4, 3) := by decide +kernel
theorem dX12_found_26 : decode cX12_found 26 = .ok (.iconst 1, 1) := by decide +kernel
theorem dX12_found_27 : decode cX12_found 27 = .ok (.putfield 87, 3) := by decide +kernel
theorem dX12_found_30 : decode cX12_found 30 = .ok (.aload_n 0, 1) := by decide +kernel
theorem dX12_found_31 : decode cX12_found 31 = .ok (.getfield 87, 3) := by decide +kernel
theorem dX12_found_34 : decode cX12_found 34 = .ok (.ifCond .ne 16, 3) := by decide +kernel
theorem dX12_found_37 : decode cX12_found 37 = .ok (.aload_n 0, 1) := by decide +kernel
theorem dX12_found_38 : decode cX12_found 38 = .ok (.getfield 44, 3) := by decide +kernel
theorem dX12_found_41 : decode cX12_found 41 = .ok (.iconst 5, 1) := by decide +kernel
theorem dX12_found_42 : decode cX12_found 42 = .ok (.iload_n 1, 1) := by decide +kernel
theorem dX12_found_43 : decode cX12_found 43 = .ok (.imul, 1) := by decide +kernel
theorem dX12_found_44 : decode cX12_found 44 = .ok (.iload_n 2, 1) := by decide +kernel
theorem dX12_found_45 : decode cX12_found 45 = .ok (.iadd, 1) := by decide +kernel
theorem dX12_found_46 : decode cX12_found 46 = .ok (.iaload, 1) := by decide +kernel
theorem dX12_found_47 : decode cX12_found 47 = .ok (.goto 4, 3) := by decide +kernel
theorem dX12_found_50 : decode cX12_found 50 = .ok (.iconst 0, 1) := by decide +kernel
theorem dX12_found_51 : decode cX12_found 51 = .ok (.ireturn, 1) := by decide +kernel
theorem dX12_unitsOf_0 : decode cX12_unitsOf 0 = .ok (.iconst 0, 1) := by decide +kernel
theorem dX12_unitsOf_1 : decode cX12_unitsOf 1 = .ok (.istore_n 2, 1) := by decide +kernel
theorem dX12_unitsOf_2 : decode cX12_unitsOf 2 = .ok (.iconst 0, 1) := by decide +kernel
theorem dX12_unitsOf_3 : decode cX12_unitsOf 3 = .ok (.istore_n 3, 1) := by decide +kernel
theorem dX12_unitsOf_4 : decode cX12_unitsOf 4 = .ok (.iload_n 3, 1) := by decide +kernel
theorem dX12_unitsOf_5 : decode cX12_unitsOf 5 = .ok (.aload_n 0, 1) := by decide +kernel
theorem dX12_unitsOf_6 : decode cX12_unitsOf 6 = .ok (.getfield 18, 3) := by decide +kernel
theorem dX12_unitsOf_9 : decode cX12_unitsOf 9 = .ok (.iload_n 1, 1) := by decide +kernel
theorem dX12_unitsOf_10 : decode cX12_unitsOf 10 = .ok (.iaload, 1) := by decide +kernel
theorem dX12_unitsOf_11 : decode cX12_unitsOf 11 = .ok (.if_icmp .ge 41, 3) := by decide +kernel
theorem dX12_unitsOf_14 : decode cX12_unitsOf 14 = .ok (.iload_n 2, 1) := by decide +kernel
theorem dX12_unitsOf_15 : decode cX12_unitsOf 15 = .ok (.aload_n 0, 1) := by decide +kernel
theorem dX12_unitsOf_16 : decode cX12_unitsOf 16 = .ok (.getfield 11, 3) := by decide +kernel
theorem dX12_unitsOf_19 : decode cX12_unitsOf 19 = .ok (.bipush 24, 2) := by decide +kernel
theorem dX12_unitsOf_21 : decode cX12_unitsOf 21 = .ok (.iload_n 1, 1) := by decide +kernel
theorem dX12_unitsOf_22 : decode cX12_unitsOf 22 = .ok (.imul, 1) := by decide +kernel
theorem dX12_unitsOf_23 : decode cX12_unitsOf 23 = .ok (.iload_n 3, 1) := by decide +kernel
theorem dX12_unitsOf_24 : decode cX12_unitsOf 24 = .ok (.iadd, 1) := by decide +kernel
theorem dX12_unitsOf_25 : decode cX12_unitsOf 25 = .ok (.iaload, 1) := by decide +kernel
theorem dX12_unitsOf_26 : decode cX12_unitsOf 26 = .ok (.ifCond .ge 7, 3) := by decide +kernel
theorem dX12_unitsOf_29 : decode cX12_unitsOf 29 = .ok (.iconst 0, 1) := by decide +kernel
theorem dX12_unitsOf_30 : decode cX12_unitsOf 30 = .ok (.goto 14, 3) := by decide +kernel
theorem dX12_unitsOf_33 : decode cX12_unitsOf 33 = .ok (.aload_n 0, 1) := by decide +kernel
theorem dX12_unitsOf_34 : decode cX12_unitsOf 34 = .ok (.getfield 15, 3) := by decide +kernel
theorem dX12_unitsOf_37 : decode cX12_unitsOf 37 = .ok (.bipush 24, 2) := by decide +kernel
theorem dX12_unitsOf_39 : decode cX12_unitsOf 39 = .ok (.iload_n 1, 1) := by decide +kernel
theorem dX12_unitsOf_40 : decode cX12_unitsOf 40 = .ok (.imul, 1) := by decide +kernel
theorem dX12_unitsOf_41 : decode cX12_unitsOf 41 = .ok (.iload_n 3, 1) := by decide +kernel
theorem dX12_unitsOf_42 : decode cX12_unitsOf 42 = .ok (.iadd, 1) := by decide +kernel
theorem dX12_unitsOf_43 : decode cX12_unitsOf 43 = .ok (.iaload, 1) := by decide +kernel
theorem dX12_unitsOf_44 : decode cX12_unitsOf 44 = .ok (.iadd, 1) := by decide +kernel
theorem dX12_unitsOf_45 : decode cX12_unitsOf 45 = .ok (.istore_n 2, 1) := by decide +kernel
theorem dX12_unitsOf_46 : decode cX12_unitsOf 46 = .ok (.iinc 3 1, 3) := by decide +kernel
theorem dX12_unitsOf_49 : decode cX12_unitsOf 49 = .ok (.goto (-45), 3) := by decide +kernel
theorem dX12_unitsOf_52 : decode cX12_unitsOf 52 = .ok (.iload_n 2, 1) := by decide +kernel
theorem dX12_unitsOf_53 : decode cX12_unitsOf 53 = .ok (.ireturn, 1) := by decide +kernel
theorem dX12_lay_0 : decode cX12_lay 0 = .ok (.iconst 0, 1) := by decide +kernel
theorem dX12_lay_1 : decode cX12_lay 1 = .ok (.istore_n 3, 1) := by decide +kernel
theorem dX12_lay_2 : decode cX12_lay 2 = .ok (.iconst 0, 1) := by decide +kernel
theorem dX12_lay_3 : decode cX12_lay 3 = .ok (.istore 4, 2) := by decide +kernel
theorem dX12_lay_5 : decode cX12_lay 5 = .ok (.iload 4, 2) := by decide +kernel
theorem dX12_lay_7 : decode cX12_lay 7 = .ok (.aload_n 0, 1) := by decide +kernel
theorem dX12_lay_8 : decode cX12_lay 8 = .ok (.getfield 18, 3) := by decide +kernel
theorem dX12_lay_11 : decode cX12_lay 11 = .ok (.iload_n 1, 1) := by decide +kernel
theorem dX12_lay_12 : decode cX12_lay 12 = .ok (.iaload, 1) := by decide +kernel
theorem dX12_lay_13 : decode cX12_lay 13 = .ok (.if_icmp .ge 210, 3) := by decide +kernel
theorem dX12_lay_16 : decode cX12_lay 16 = .ok (.aload_n 0, 1) := by decide +kernel
theorem dX12_lay_17 : decode cX12_lay 17 = .ok (.getfield 11, 3) := by decide +kernel
theorem dX12_lay_20 : decode cX12_lay 20 = .ok (.bipush 24, 2) := by decide +kernel
theorem dX12_lay_22 : decode cX12_lay 22 = .ok (.iload_n 1, 1) := by decide +kernel
theorem dX12_lay_23 : decode cX12_lay 23 = .ok (.imul, 1) := by decide +kernel
theorem dX12_lay_24 : decode cX12_lay 24 = .ok (.iload 4, 2) := by decide +kernel
theorem dX12_lay_26 : decode cX12_lay 26 = .ok (.iadd, 1) := by decide +kernel
theorem dX12_lay_27 : decode cX12_lay 27 = .ok (.iaload, 1) := by decide +kernel
theorem dX12_lay_28 : decode cX12_lay 28 = .ok (.istore 5, 2) := by decide +kernel
theorem dX12_lay_30 : decode cX12_lay 30 = .ok (.aload_n 0, 1) := by decide +kernel
theorem dX12_lay_31 : decode cX12_lay 31 = .ok (.getfield 65, 3) := by decide +kernel
theorem dX12_lay_34 : decode cX12_lay 34 = .ok (.iload 4, 2) := by decide +kernel
theorem dX12_lay_36 : decode cX12_lay 36 = .ok (.iload 5, 2) := by decide +kernel
theorem dX12_lay_38 : decode cX12_lay 38 = .ok (.ifCond .ge 7, 3) := by decide +kernel
theorem dX12_lay_41 : decode cX12_lay 41 = .ok (.iconst 0, 1) := by decide +kernel
theorem dX12_lay_42 : decode cX12_lay 42 = .ok (.goto 15, 3) := by decide +kernel
theorem dX12_lay_45 : decode cX12_lay 45 = .ok (.aload_n 0, 1) := by decide +kernel
theorem dX12_lay_46 : decode cX12_lay 46 = .ok (.getfield 15, 3) := by decide +kernel
theorem dX12_lay_49 : decode cX12_lay 49 = .ok (.bipush 24, 2) := by decide +kernel
theorem dX12_lay_51 : decode cX12_lay 51 = .ok (.iload_n 1, 1) := by decide +kernel
theorem dX12_lay_52 : decode cX12_lay 52 = .ok (.imul, 1) := by decide +kernel
theorem dX12_lay_53 : decode cX12_lay 53 = .ok (.iload 4, 2) := by decide +kernel
theorem dX12_lay_55 : decode cX12_lay 55 = .ok (.iadd, 1) := by decide +kernel
theorem dX12_lay_56 : decode cX12_lay 56 = .ok (.iaload, 1) := by decide +kernel
theorem dX12_lay_57 : decode cX12_lay 57 = .ok (.iastore, 1) := by decide +kernel
theorem dX12_lay_58 : decode cX12_lay 58 = .ok (.iconst 0, 1) := by decide +kernel
theorem dX12_lay_59 : decode cX12_lay 59 = .ok (.istore 6, 2) := by decide +kernel
theorem dX12_lay_61 : decode cX12_lay 61 = .ok (.iconst 0, 1) := by decide +kernel
theorem dX12_lay_62 : decode cX12_lay 62 = .ok (.istore 7, 2) := by decide +kernel
theorem dX12_lay_64 : decode cX12_lay 64 = .ok (.iload 7, 2) := by decide +kernel
theorem dX12_lay_66 : decode cX12_lay 66 = .ok (.aload_n 0, 1) := by decide +kernel
theorem dX12_lay_67 : decode cX12_lay 67 = .ok (.getfield 18, 3) := by decide +kernel
theorem dX12_lay_70 : decode cX12_lay 70 = .ok (.iload_n 2, 1) := by decide +kernel
theorem dX12_lay_71 : decode cX12_lay 71 = .ok (.iaload, 1) := by decide +kernel
theorem dX12_lay_72 : decode cX12_lay 72 = .ok (.if_icmp .ge 130, 3) := by decide +kernel
theorem dX12_lay_75 : decode cX12_lay 75 = .ok (.aload_n 0, 1) := by decide +kernel
theorem dX12_lay_76 : decode cX12_lay 76 = .ok (.getfield 11, 3) := by decide +kernel
theorem dX12_lay_79 : decode cX12_lay 79 = .ok (.bipush 24, 2) := by decide +kernel
theorem dX12_lay_81 : decode cX12_lay 81 = .ok (.iload_n 2, 1) := by decide +kernel
theorem dX12_lay_82 : decode cX12_lay 82 = .ok (.imul, 1) := by decide +kernel
theorem dX12_lay_83 : decode cX12_lay 83 = .ok (.iload 7, 2) := by decide +kernel
theorem dX12_lay_85 : decode cX12_lay 85 = .ok (.iadd, 1) := by decide +kernel
theorem dX12_lay_86 : decode cX12_lay 86 = .ok (.iaload, 1) := by decide +kernel
theorem dX12_lay_87 : decode cX12_lay 87 = .ok (.istore 8, 2) := by decide +kernel
theorem dX12_lay_89 : decode cX12_lay 89 = .ok (.aload_n 0, 1) := by decide +kernel
theorem dX12_lay_90 : decode cX12_lay 90 = .ok (.getfield 68, 3) := by decide +kernel
theorem dX12_lay_93 : decode cX12_lay 93 = .ok (.iload 7, 2) := by decide +kernel
theorem dX12_lay_95 : decode cX12_lay 95 = .ok (.iload 8, 2) := by decide +kernel
theorem dX12_lay_97 : decode cX12_lay 97 = .ok (.ifCond .ge 7, 3) := by decide +kernel
theorem dX12_lay_100 : decode cX12_lay 100 = .ok (.iconst 0, 1) := by decide +kernel
theorem dX12_lay_101 : decode cX12_lay 101 = .ok (.goto 15, 3) := by decide +kernel
theorem dX12_lay_104 : decode cX12_lay 104 = .ok (.aload_n 0, 1) := by decide +kernel
theorem dX12_lay_105 : decode cX12_lay 105 = .ok (.getfield 15, 3) := by decide +kernel
theorem dX12_lay_108 : decode cX12_lay 108 = .ok (.bipush 24, 2) := by decide +kernel
theorem dX12_lay_110 : decode cX12_lay 110 = .ok (.iload_n 2, 1) := by decide +kernel
theorem dX12_lay_111 : decode cX12_lay 111 = .ok (.imul, 1) := by decide +kernel
theorem dX12_lay_112 : decode cX12_lay 112 = .ok (.iload 7, 2) := by decide +kernel
theorem dX12_lay_114 : decode cX12_lay 114 = .ok (.iadd, 1) := by decide +kernel
theorem dX12_lay_115 : decode cX12_lay 115 = .ok (.iaload, 1) := by decide +kernel
theorem dX12_lay_116 : decode cX12_lay 116 = .ok (.iastore, 1) := by decide +kernel
theorem dX12_lay_117 : decode cX12_lay 117 = .ok (.aload_n 0, 1) := by decide +kernel
theorem dX12_lay_118 : decode cX12_lay 118 = .ok (.getfield 74, 3) := by decide +kernel
theorem dX12_lay_121 : decode cX12_lay 121 = .ok (.bipush 24, 2) := by decide +kernel
theorem dX12_lay_123 : decode cX12_lay 123 = .ok (.iload 4, 2) := by decide +kernel
theorem dX12_lay_125 : decode cX12_lay 125 = .ok (.imul, 1) := by decide +kernel
theorem dX12_lay_126 : decode cX12_lay 126 = .ok (.iload 7, 2) := by decide +kernel
theorem dX12_lay_128 : decode cX12_lay 128 = .ok (.iadd, 1) := by decide +kernel
theorem dX12_lay_129 : decode cX12_lay 129 = .ok (.aload_n 0, 1) := by decide +kernel
theorem dX12_lay_130 : decode cX12_lay 130 = .ok (.getfield 21, 3) := by decide +kernel
theorem dX12_lay_133 : decode cX12_lay 133 = .ok (.iconst 5, 1) := by decide +kernel
theorem dX12_lay_134 : decode cX12_lay 134 = .ok (.iaload, 1) := by decide +kernel
theorem dX12_lay_135 : decode cX12_lay 135 = .ok (.i2l, 1) := by decide +kernel
theorem dX12_lay_136 : decode cX12_lay 136 = .ok (.iload_n 3, 1) := by decide +kernel
theorem dX12_lay_137 : decode cX12_lay 137 = .ok (.iload 6, 2) := by decide +kernel
theorem dX12_lay_139 : decode cX12_lay 139 = .ok (.isub, 1) := by decide +kernel
theorem dX12_lay_140 : decode cX12_lay 140 = .ok (.invokestatic 220, 3) := by decide +kernel
theorem dX12_lay_143 : decode cX12_lay 143 = .ok (.i2l, 1) := by decide +kernel
theorem dX12_lay_144 : decode cX12_lay 144 = .ok (.lmul, 1) := by decide +kernel
theorem dX12_lay_145 : decode cX12_lay 145 = .ok (.aload_n 0, 1) := by decide +kernel
theorem dX12_lay_146 : decode cX12_lay 146 = .ok (.getfield 21, 3) := by decide +kernel
theorem dX12_lay_149 : decode cX12_lay 149 = .ok (.bipush 6, 2) := by decide +kernel
theorem dX12_lay_151 : decode cX12_lay 151 = .ok (.iaload, 1) := by decide +kernel
theorem dX12_lay_152 : decode cX12_lay 152 = .ok (.i2l, 1) := by decide +kernel
theorem dX12_lay_153 : decode cX12_lay 153 = .ok (.iload 5, 2) := by decide +kernel
theorem dX12_lay_155 : decode cX12_lay 155 = .ok (.iload 8, 2) := by decide +kernel
theorem dX12_lay_157 : decode cX12_lay 157 = .ok (.isub, 1) := by decide +kernel
theorem dX12_lay_158 : decode cX12_lay 158 = .ok (.invokestatic 220, 3) := by decide +kernel
theorem dX12_lay_161 : decode cX12_lay 161 = .ok (.i2l, 1) := by decide +kernel
theorem dX12_lay_162 : decode cX12_lay 162 = .ok (.lmul, 1) := by decide +kernel
theorem dX12_lay_163 : decode cX12_lay 163 = .ok (.ladd, 1) := by decide +kernel
theorem dX12_lay_164 : decode cX12_lay 164 = .ok (.lastore, 1) := by decide +kernel
theorem dX12_lay_165 : decode cX12_lay 165 = .ok (.aload_n 0, 1) := by decide +kernel
theorem dX12_lay_166 : decode cX12_lay 166 = .ok (.getfield 71, 3) := by decide +kernel
theorem dX12_lay_169 : decode cX12_lay 169 = .ok (.bipush 24, 2) := by decide +kernel
theorem dX12_lay_171 : decode cX12_lay 171 = .ok (.iload 4, 2) := by decide +kernel
theorem dX12_lay_173 : decode cX12_lay 173 = .ok (.imul, 1) := by decide +kernel
theorem dX12_lay_174 : decode cX12_lay 174 = .ok (.iload 7, 2) := by decide +kernel
theorem dX12_lay_176 : decode cX12_lay 176 = .ok (.iadd, 1) := by decide +kernel
theorem dX12_lay_177 : decode cX12_lay 177 = .ok (.iconst 0, 1) := by decide +kernel
theorem dX12_lay_178 : decode cX12_lay 178 = .ok (.iastore, 1) := by decide +kernel
theorem dX12_lay_179 : decode cX12_lay 179 = .ok (.iload 6, 2) := by decide +kernel
theorem dX12_lay_181 : decode cX12_lay 181 = .ok (.aload_n 0, 1) := by decide +kernel
theorem dX12_lay_182 : decode cX12_lay 182 = .ok (.getfield 15, 3) := by decide +kernel
theorem dX12_lay_185 : decode cX12_lay 185 = .ok (.bipush 24, 2) := by decide +kernel
theorem dX12_lay_187 : decode cX12_lay 187 = .ok (.iload_n 2, 1) := by decide +kernel
theorem dX12_lay_188 : decode cX12_lay 188 = .ok (.imul, 1) := by decide +kernel
theorem dX12_lay_189 : decode cX12_lay 189 = .ok (.iload 7, 2) := by decide +kernel
theorem dX12_lay_191 : decode cX12_lay 191 = .ok (.iadd, 1) := by decide +kernel
theorem dX12_lay_192 : decode cX12_lay 192 = .ok (.iaload, 1) := by decide +kernel
theorem dX12_lay_193 : decode cX12_lay 193 = .ok (.iadd, 1) := by decide +kernel
theorem dX12_lay_194 : decode cX12_lay 194 = .ok (.istore 6, 2) := by decide +kernel
theorem dX12_lay_196 : decode cX12_lay 196 = .ok (.iinc 7 1, 3) := by decide +kernel
theorem dX12_lay_199 : decode cX12_lay 199 = .ok (.goto (-135), 3) := by decide +kernel
theorem dX12_lay_202 : decode cX12_lay 202 = .ok (.iload_n 3, 1) := by decide +kernel
theorem dX12_lay_203 : decode cX12_lay 203 = .ok (.aload_n 0, 1) := by decide +kernel
theorem dX12_lay_204 : decode cX12_lay 204 = .ok (.getfield 15, 3) := by decide +kernel
theorem dX12_lay_207 : decode cX12_lay 207 = .ok (.bipush 24, 2) := by decide +kernel
theorem dX12_lay_209 : decode cX12_lay 209 = .ok (.iload_n 1, 1) := by decide +kernel
theorem dX12_lay_210 : decode cX12_lay 210 = .ok (.imul, 1) := by decide +kernel
theorem dX12_lay_211 : decode cX12_lay 211 = .ok (.iload 4, 2) := by decide +kernel
theorem dX12_lay_213 : decode cX12_lay 213 = .ok (.iadd, 1) := by decide +kernel
theorem dX12_lay_214 : decode cX12_lay 214 = .ok (.iaload, 1) := by decide +kernel
theorem dX12_lay_215 : decode cX12_lay 215 = .ok (.iadd, 1) := by decide +kernel
theorem dX12_lay_216 : decode cX12_lay 216 = .ok (.istore_n 3, 1) := by decide +kernel
theorem dX12_lay_217 : decode cX12_lay 217 = .ok (.iinc 4 1, 3) := by decide +kernel
theorem dX12_lay_220 : decode cX12_lay 220 = .ok (.goto (-215), 3) := by decide +kernel
theorem dX12_lay_223 : decode cX12_lay 223 = .ok (.return_, 1) := by decide +kernel
theorem dX12_reachAll_0 : decode cX12_reachAll 0 = .ok (.iconst 0, 1) := by decide +kernel
theorem dX12_reachAll_1 : decode cX12_reachAll 1 = .ok (.istore_n 3, 1) := by decide +kernel
theorem dX12_reachAll_2 : decode cX12_reachAll 2 = .ok (.iload_n 3, 1) := by decide +kernel
theorem dX12_reachAll_3 : decode cX12_reachAll 3 = .ok (.bipush 24, 2) := by decide +kernel
theorem dX12_reachAll_5 : decode cX12_reachAll 5 = .ok (.if_icmp .ge 70, 3) := by decide +kernel
theorem dX12_reachAll_8 : decode cX12_reachAll 8 = .ok (.aload_n 0, 1) := by decide +kernel
theorem dX12_reachAll_9 : decode cX12_reachAll 9 = .ok (.getfield 78, 3) := by decide +kernel
theorem dX12_reachAll_12 : decode cX12_reachAll 12 = .ok (.iload_n 3, 1) := by decide +kernel
theorem dX12_reachAll_13 : decode cX12_reachAll 13 = .ok (.iload_n 3, 1) := by decide +kernel
theorem dX12_reachAll_14 : decode cX12_reachAll 14 = .ok (.aload_n 0, 1) := by decide +kernel
theorem dX12_reachAll_15 : decode cX12_reachAll 15 = .ok (.getfield 18, 3) := by decide +kernel
theorem dX12_reachAll_18 : decode cX12_reachAll 18 = .ok (.iload_n 1, 1) := by decide +kernel
theorem dX12_reachAll_19 : decode cX12_reachAll 19 = .ok (.iaload, 1) := by decide +kernel
theorem dX12_reachAll_20 : decode cX12_reachAll 20 = .ok (.if_icmp .ge 16, 3) := by decide +kernel
theorem dX12_reachAll_23 : decode cX12_reachAll 23 = .ok (.aload_n 0, 1) := by decide +kernel
theorem dX12_reachAll_24 : decode cX12_reachAll 24 = .ok (.getfield 65, 3) := by decide +kernel
theorem dX12_reachAll_27 : decode cX12_reachAll 27 = .ok (.iload_n 3, 1) := by decide +kernel
theorem dX12_reachAll_28 : decode cX12_reachAll 28 = .ok (.iaload, 1) := by decide +kernel
theorem dX12_reachAll_29 : decode cX12_reachAll 29 = .ok (.ifCond .le 7, 3) := by decide +kernel
theorem dX12_reachAll_32 : decode cX12_reachAll 32 = .ok (.lconst 0, 1) := by decide +kernel
theorem dX12_reachAll_33 : decode cX12_reachAll 33 = .ok (.goto 6, 3) := by decide +kernel
theorem dX12_reachAll_36 : decode cX12_reachAll 36 = .ok (.ldc2_w 245, 3) := by decide +kernel
theorem dX12_reachAll_39 : decode cX12_reachAll 39 = .ok (.lastore, 1) := by decide +kernel
theorem dX12_reachAll_40 : decode cX12_reachAll 40 = .ok (.aload_n 0, 1) := by decide +kernel
theorem dX12_reachAll_41 : decode cX12_reachAll 41 = .ok (.getfield 78, 3) := by decide +kernel
theorem dX12_reachAll_44 : decode cX12_reachAll 44 = .ok (.bipush 24, 2) := by decide +kernel
theorem dX12_reachAll_46 : decode cX12_reachAll 46 = .ok (.iload_n 3, 1) := by decide +kernel
theorem dX12_reachAll_47 : decode cX12_reachAll 47 = .ok (.iadd, 1) := by decide +kernel
theorem dX12_reachAll_48 : decode cX12_reachAll 48 = .ok (.ldc2_w 245, 3) := by decide +kernel
theorem dX12_reachAll_51 : decode cX12_reachAll 51 = .ok (.lastore, 1) := by decide +kernel
theorem dX12_reachAll_52 : decode cX12_reachAll 52 = .ok (.aload_n 0, 1) := by decide +kernel
theorem dX12_reachAll_53 : decode cX12_reachAll 53 = .ok (.getfield 81, 3) := by decide +kernel
theorem dX12_reachAll_56 : decode cX12_reachAll 56 = .ok (.iload_n 3, 1) := by decide +kernel
theorem dX12_reachAll_57 : decode cX12_reachAll 57 = .ok (.iconst (-1), 1) := by decide +kernel
theorem dX12_reachAll_58 : decode cX12_reachAll 58 = .ok (.iastore, 1) := by decide +kernel
theorem dX12_reachAll_59 : decode cX12_reachAll 59 = .ok (.aload_n 0, 1) := by decide +kernel
theorem dX12_reachAll_60 : decode cX12_reachAll 60 = .ok (.getfield 81, 3) := by decide +kernel
theorem dX12_reachAll_63 : decode cX12_reachAll 63 = .ok (.bipush 24, 2) := by decide +kernel
theorem dX12_reachAll_65 : decode cX12_reachAll 65 = .ok (.iload_n 3, 1) := by decide +kernel
theorem dX12_reachAll_66 : decode cX12_reachAll 66 = .ok (.iadd, 1) := by decide +kernel
theorem dX12_reachAll_67 : decode cX12_reachAll 67 = .ok (.iconst (-1), 1) := by decide +kernel
theorem dX12_reachAll_68 : decode cX12_reachAll 68 = .ok (.iastore, 1) := by decide +kernel
theorem dX12_reachAll_69 : decode cX12_reachAll 69 = .ok (.iinc 3 1, 3) := by decide +kernel
theorem dX12_reachAll_72 : decode cX12_reachAll 72 = .ok (.goto (-70), 3) := by decide +kernel
theorem dX12_reachAll_75 : decode cX12_reachAll 75 = .ok (.iconst 1, 1) := by decide +kernel
theorem dX12_reachAll_76 : decode cX12_reachAll 76 = .ok (.istore_n 3, 1) := by decide +kernel
theorem dX12_reachAll_77 : decode cX12_reachAll 77 = .ok (.iload_n 3, 1) := by decide +kernel
theorem dX12_reachAll_78 : decode cX12_reachAll 78 = .ok (.ifCond .eq 265, 3) := by decide +kernel
theorem dX12_reachAll_81 : decode cX12_reachAll 81 = .ok (.iconst 0, 1) := by decide +kernel
theorem dX12_reachAll_82 : decode cX12_reachAll 82 = .ok (.istore_n 3, 1) := by decide +kernel
theorem dX12_reachAll_83 : decode cX12_reachAll 83 = .ok (.iconst 0, 1) := by decide +kernel
theorem dX12_reachAll_84 : decode cX12_reachAll 84 = .ok (.istore 4, 2) := by decide +kernel
theorem dX12_reachAll_86 : decode cX12_reachAll 86 = .ok (.iload 4, 2) := by decide +kernel
theorem dX12_reachAll_88 : decode cX12_reachAll 88 = .ok (.aload_n 0, 1) := by decide +kernel
theorem dX12_reachAll_89 : decode cX12_reachAll 89 = .ok (.getfield 18, 3) := by decide +kernel
theorem dX12_reachAll_92 : decode cX12_reachAll 92 = .ok (.iload_n 1, 1) := by decide +kernel
theorem dX12_reachAll_93 : decode cX12_reachAll 93 = .ok (.iaload, 1) := by decide +kernel
theorem dX12_reachAll_94 : decode cX12_reachAll 94 = .ok (.if_icmp .ge 246, 3) := by decide +kernel
theorem dX12_reachAll_97 : decode cX12_reachAll 97 = .ok (.iconst 0, 1) := by decide +kernel
theorem dX12_reachAll_98 : decode cX12_reachAll 98 = .ok (.istore 5, 2) := by decide +kernel
theorem dX12_reachAll_100 : decode cX12_reachAll 100 = .ok (.iload 5, 2) := by decide +kernel
theorem dX12_reachAll_102 : decode cX12_reachAll 102 = .ok (.aload_n 0, 1) := by decide +kernel
theorem dX12_reachAll_103 : decode cX12_reachAll 103 = .ok (.getfield 18, 3) := by decide +kernel
theorem dX12_reachAll_106 : decode cX12_reachAll 106 = .ok (.iload_n 2, 1) := by decide +kernel
theorem dX12_reachAll_107 : decode cX12_reachAll 107 = .ok (.iaload, 1) := by decide +kernel
theorem dX12_reachAll_108 : decode cX12_reachAll 108 = .ok (.if_icmp .ge 226, 3) := by decide +kernel
theorem dX12_reachAll_111 : decode cX12_reachAll 111 = .ok (.aload_n 0, 1) := by decide +kernel
theorem dX12_reachAll_112 : decode cX12_reachAll 112 = .ok (.getfield 11, 3) := by decide +kernel
theorem dX12_reachAll_115 : decode cX12_reachAll 115 = .ok (.bipush 24, 2) := by decide +kernel
theorem dX12_reachAll_117 : decode cX12_reachAll 117 = .ok (.iload_n 1, 1) := by decide +kernel
theorem dX12_reachAll_118 : decode cX12_reachAll 118 = .ok (.imul, 1) := by decide +kernel
theorem dX12_reachAll_119 : decode cX12_reachAll 119 = .ok (.iload 4, 2) := by decide +kernel
theorem dX12_reachAll_121 : decode cX12_reachAll 121 = .ok (.iadd, 1) := by decide +kernel
theorem dX12_reachAll_122 : decode cX12_reachAll 122 = .ok (.iaload, 1) := by decide +kernel
theorem dX12_reachAll_123 : decode cX12_reachAll 123 = .ok (.ifCond .lt 22, 3) := by decide +kernel
theorem dX12_reachAll_126 : decode cX12_reachAll 126 = .ok (.aload_n 0, 1) := by decide +kernel
theorem dX12_reachAll_127 : decode cX12_reachAll 127 = .ok (.getfield 11, 3) := by decide +kernel
theorem dX12_reachAll_130 : decode cX12_reachAll 130 = .ok (.bipush 24, 2) := by decide +kernel
theorem dX12_reachAll_132 : decode cX12_reachAll 132 = .ok (.iload_n 2, 1) := by decide +kernel
theorem dX12_reachAll_133 : decode cX12_reachAll 133 = .ok (.imul, 1) := by decide +kernel
theorem dX12_reachAll_134 : decode cX12_reachAll 134 = .ok (.iload 5, 2) := by decide +kernel
theorem dX12_reachAll_136 : decode cX12_reachAll 136 = .ok (.iadd, 1) := by decide +kernel
theorem dX12_reachAll_137 : decode cX12_reachAll 137 = .ok (.iaload, 1) := by decide +kernel
theorem dX12_reachAll_138 : decode cX12_reachAll 138 = .ok (.ifCond .lt 7, 3) := by decide +kernel
theorem dX12_reachAll_141 : decode cX12_reachAll 141 = .ok (.iconst 1, 1) := by decide +kernel
theorem dX12_reachAll_142 : decode cX12_reachAll 142 = .ok (.goto 4, 3) := by decide +kernel
theorem dX12_reachAll_145 : decode cX12_reachAll 145 = .ok (.iconst 0, 1) := by decide +kernel
theorem dX12_reachAll_146 : decode cX12_reachAll 146 = .ok (.istore 6, 2) := by decide +kernel
theorem dX12_reachAll_148 : decode cX12_reachAll 148 = .ok (.aload_n 0, 1) := by decide +kernel
theorem dX12_reachAll_149 : decode cX12_reachAll 149 = .ok (.getfield 74, 3) := by decide +kernel
theorem dX12_reachAll_152 : decode cX12_reachAll 152 = .ok (.bipush 24, 2) := by decide +kernel
theorem dX12_reachAll_154 : decode cX12_reachAll 154 = .ok (.iload 4, 2) := by decide +kernel
theorem dX12_reachAll_156 : decode cX12_reachAll 156 = .ok (.imul, 1) := by decide +kernel
theorem dX12_reachAll_157 : decode cX12_reachAll 157 = .ok (.iload 5, 2) := by decide +kernel
theorem dX12_reachAll_159 : decode cX12_reachAll 159 = .ok (.iadd, 1) := by decide +kernel
theorem dX12_reachAll_160 : decode cX12_reachAll 160 = .ok (.laload, 1) := by decide +kernel
theorem dX12_reachAll_161 : decode cX12_reachAll 161 = .ok (.lstore 7, 2) := by decide +kernel
theorem dX12_reachAll_163 : decode cX12_reachAll 163 = .ok (.iload 6, 2) := by decide +kernel
theorem dX12_reachAll_165 : decode cX12_reachAll 165 = .ok (.ifCond .eq 75, 3) := by decide +kernel
theorem dX12_reachAll_168 : decode cX12_reachAll 168 = .ok (.aload_n 0, 1) := by decide +kernel
theorem dX12_reachAll_169 : decode cX12_reachAll 169 = .ok (.getfield 78, 3) := by decide +kernel
theorem dX12_reachAll_172 : decode cX12_reachAll 172 = .ok (.iload 4, 2) := by decide +kernel
theorem dX12_reachAll_174 : decode cX12_reachAll 174 = .ok (.laload, 1) := by decide +kernel
theorem dX12_reachAll_175 : decode cX12_reachAll 175 = .ok (.ldc2_w 245, 3) := by decide +kernel
theorem dX12_reachAll_178 : decode cX12_reachAll 178 = .ok (.lcmp, 1) := by decide +kernel
theorem dX12_reachAll_179 : decode cX12_reachAll 179 = .ok (.ifCond .ge 61, 3) := by decide +kernel
theorem dX12_reachAll_182 : decode cX12_reachAll 182 = .ok (.aload_n 0, 1) := by decide +kernel
theorem dX12_reachAll_183 : decode cX12_reachAll 183 = .ok (.getfield 78, 3) := by decide +kernel
theorem dX12_reachAll_186 : decode cX12_reachAll 186 = .ok (.iload 4, 2) := by decide +kernel
theorem dX12_reachAll_188 : decode cX12_reachAll 188 = .ok (.laload, 1) := by decide +kernel
theorem dX12_reachAll_189 : decode cX12_reachAll 189 = .ok (.lload 7, 2) := by decide +kernel
theorem dX12_reachAll_191 : decode cX12_reachAll 191 = .ok (.ladd, 1) := by decide +kernel
theorem dX12_reachAll_192 : decode cX12_reachAll 192 = .ok (.aload_n 0, 1) := by decide +kernel
theorem dX12_reachAll_193 : decode cX12_reachAll 193 = .ok (.getfield 78, 3) := by decide +kernel
theorem dX12_reachAll_196 : decode cX12_reachAll 196 = .ok (.bipush 24, 2) := by decide +kernel
theorem dX12_reachAll_198 : decode cX12_reachAll 198 = .ok (.iload 5, 2) := by decide +kernel
theorem dX12_reachAll_200 : decode cX12_reachAll 200 = .ok (.iadd, 1) := by decide +kernel
theorem dX12_reachAll_201 : decode cX12_reachAll 201 = .ok (.laload, 1) := by decide +kernel
theorem dX12_reachAll_202 : decode cX12_reachAll 202 = .ok (.lcmp, 1) := by decide +kernel
theorem dX12_reachAll_203 : decode cX12_reachAll 203 = .ok (.ifCond .ge 37, 3) := by decide +kernel
theorem dX12_reachAll_206 : decode cX12_reachAll 206 = .ok (.aload_n 0, 1) := by decide +kernel
theorem dX12_reachAll_207 : decode cX12_reachAll 207 = .ok (.getfield 78, 3) := by decide +kernel
theorem dX12_reachAll_210 : decode cX12_reachAll 210 = .ok (.bipush 24, 2) := by decide +kernel
theorem dX12_reachAll_212 : decode cX12_reachAll 212 = .ok (.iload 5, 2) := by decide +kernel
theorem dX12_reachAll_214 : decode cX12_reachAll 214 = .ok (.iadd, 1) := by decide +kernel
theorem dX12_reachAll_215 : decode cX12_reachAll 215 = .ok (.aload_n 0, 1) := by decide +kernel
theorem dX12_reachAll_216 : decode cX12_reachAll 216 = .ok (.getfield 78, 3) := by decide +kernel
theorem dX12_reachAll_219 : decode cX12_reachAll 219 = .ok (.iload 4, 2) := by decide +kernel
theorem dX12_reachAll_221 : decode cX12_reachAll 221 = .ok (.laload, 1) := by decide +kernel
theorem dX12_reachAll_222 : decode cX12_reachAll 222 = .ok (.lload 7, 2) := by decide +kernel
theorem dX12_reachAll_224 : decode cX12_reachAll 224 = .ok (.ladd, 1) := by decide +kernel
theorem dX12_reachAll_225 : decode cX12_reachAll 225 = .ok (.lastore, 1) := by decide +kernel
theorem dX12_reachAll_226 : decode cX12_reachAll 226 = .ok (.aload_n 0, 1) := by decide +kernel
theorem dX12_reachAll_227 : decode cX12_reachAll 227 = .ok (.getfield 81, 3) := by decide +kernel
theorem dX12_reachAll_230 : decode cX12_reachAll 230 = .ok (.bipush 24, 2) := by decide +kernel
theorem dX12_reachAll_232 : decode cX12_reachAll 232 = .ok (.iload 5, 2) := by decide +kernel
theorem dX12_reachAll_234 : decode cX12_reachAll 234 = .ok (.iadd, 1) := by decide +kernel
theorem dX12_reachAll_235 : decode cX12_reachAll 235 = .ok (.iload 4, 2) := by decide +kernel
theorem dX12_reachAll_237 : decode cX12_reachAll 237 = .ok (.iastore, 1) := by decide +kernel
theorem dX12_reachAll_238 : decode cX12_reachAll 238 = .ok (.iconst 1, 1) := by decide +kernel
theorem dX12_reachAll_239 : decode cX12_reachAll 239 = .ok (.istore_n 3, 1) := by decide +kernel
theorem dX12_reachAll_240 : decode cX12_reachAll 240 = .ok (.aload_n 0, 1) := by decide +kernel
theorem dX12_reachAll_241 : decode cX12_reachAll 241 = .ok (.getfield 71, 3) := by decide +kernel
theorem dX12_reachAll_244 : decode cX12_reachAll 244 = .ok (.bipush 24, 2) := by decide +kernel
theorem dX12_reachAll_246 : decode cX12_reachAll 246 = .ok (.iload 4, 2) := by decide +kernel
theorem dX12_reachAll_248 : decode cX12_reachAll 248 = .ok (.imul, 1) := by decide +kernel
theorem dX12_reachAll_249 : decode cX12_reachAll 249 = .ok (.iload 5, 2) := by decide +kernel
theorem dX12_reachAll_251 : decode cX12_reachAll 251 = .ok (.iadd, 1) := by decide +kernel
theorem dX12_reachAll_252 : decode cX12_reachAll 252 = .ok (.iaload, 1) := by decide +kernel
theorem dX12_reachAll_253 : decode cX12_reachAll 253 = .ok (.ifCond .le 75, 3) := by decide +kernel
theorem dX12_reachAll_256 : decode cX12_reachAll 256 = .ok (.aload_n 0, 1) := by decide +kernel
theorem dX12_reachAll_257 : decode cX12_reachAll 257 = .ok (.getfield 78, 3) := by decide +kernel
theorem dX12_reachAll_260 : decode cX12_reachAll 260 = .ok (.bipush 24, 2) := by decide +kernel
theorem dX12_reachAll_262 : decode cX12_reachAll 262 = .ok (.iload 5, 2) := by decide +kernel
theorem dX12_reachAll_264 : decode cX12_reachAll 264 = .ok (.iadd, 1) := by decide +kernel
theorem dX12_reachAll_265 : decode cX12_reachAll 265 = .ok (.laload, 1) := by decide +kernel
theorem dX12_reachAll_266 : decode cX12_reachAll 266 = .ok (.ldc2_w 245, 3) := by decide +kernel
theorem dX12_reachAll_269 : decode cX12_reachAll 269 = .ok (.lcmp, 1) := by decide +kernel
theorem dX12_reachAll_270 : decode cX12_reachAll 270 = .ok (.ifCond .ge 58, 3) := by decide +kernel
theorem dX12_reachAll_273 : decode cX12_reachAll 273 = .ok (.aload_n 0, 1) := by decide +kernel
theorem dX12_reachAll_274 : decode cX12_reachAll 274 = .ok (.getfield 78, 3) := by decide +kernel
theorem dX12_reachAll_277 : decode cX12_reachAll 277 = .ok (.bipush 24, 2) := by decide +kernel
theorem dX12_reachAll_279 : decode cX12_reachAll 279 = .ok (.iload 5, 2) := by decide +kernel
theorem dX12_reachAll_281 : decode cX12_reachAll 281 = .ok (.iadd, 1) := by decide +kernel
theorem dX12_reachAll_282 : decode cX12_reachAll 282 = .ok (.laload, 1) := by decide +kernel
theorem dX12_reachAll_283 : decode cX12_reachAll 283 = .ok (.lload 7, 2) := by decide +kernel
theorem dX12_reachAll_285 : decode cX12_reachAll 285 = .ok (.lsub, 1) := by decide +kernel
theorem dX12_reachAll_286 : decode cX12_reachAll 286 = .ok (.aload_n 0, 1) := by decide +kernel
theorem dX12_reachAll_287 : decode cX12_reachAll 287 = .ok (.getfield 78, 3) := by decide +kernel
theorem dX12_reachAll_290 : decode cX12_reachAll 290 = .ok (.iload 4, 2) := by decide +kernel
theorem dX12_reachAll_292 : decode cX12_reachAll 292 = .ok (.laload, 1) := by decide +kernel
theorem dX12_reachAll_293 : decode cX12_reachAll 293 = .ok (.lcmp, 1) := by decide +kernel
theorem dX12_reachAll_294 : decode cX12_reachAll 294 = .ok (.ifCond .ge 34, 3) := by decide +kernel
theorem dX12_reachAll_297 : decode cX12_reachAll 297 = .ok (.aload_n 0, 1) := by decide +kernel
theorem dX12_reachAll_298 : decode cX12_reachAll 298 = .ok (.getfield 78, 3) := by decide +kernel
theorem dX12_reachAll_301 : decode cX12_reachAll 301 = .ok (.iload 4, 2) := by decide +kernel
theorem dX12_reachAll_303 : decode cX12_reachAll 303 = .ok (.aload_n 0, 1) := by decide +kernel
theorem dX12_reachAll_304 : decode cX12_reachAll 304 = .ok (.getfield 78, 3) := by decide +kernel
theorem dX12_reachAll_307 : decode cX12_reachAll 307 = .ok (.bipush 24, 2) := by decide +kernel
theorem dX12_reachAll_309 : decode cX12_reachAll 309 = .ok (.iload 5, 2) := by decide +kernel
theorem dX12_reachAll_311 : decode cX12_reachAll 311 = .ok (.iadd, 1) := by decide +kernel
theorem dX12_reachAll_312 : decode cX12_reachAll 312 = .ok (.laload, 1) := by decide +kernel
theorem dX12_reachAll_313 : decode cX12_reachAll 313 = .ok (.lload 7, 2) := by decide +kernel
theorem dX12_reachAll_315 : decode cX12_reachAll 315 = .ok (.lsub, 1) := by decide +kernel
theorem dX12_reachAll_316 : decode cX12_reachAll 316 = .ok (.lastore, 1) := by decide +kernel
theorem dX12_reachAll_317 : decode cX12_reachAll 317 = .ok (.aload_n 0, 1) := by decide +kernel
theorem dX12_reachAll_318 : decode cX12_reachAll 318 = .ok (.getfield 81, 3) := by decide +kernel
theorem dX12_reachAll_321 : decode cX12_reachAll 321 = .ok (.iload 4, 2) := by decide +kernel
theorem dX12_reachAll_323 : decode cX12_reachAll 323 = .ok (.iload 5, 2) := by decide +kernel
theorem dX12_reachAll_325 : decode cX12_reachAll 325 = .ok (.iastore, 1) := by decide +kernel
theorem dX12_reachAll_326 : decode cX12_reachAll 326 = .ok (.iconst 1, 1) := by decide +kernel
theorem dX12_reachAll_327 : decode cX12_reachAll 327 = .ok (.istore_n 3, 1) := by decide +kernel
theorem dX12_reachAll_328 : decode cX12_reachAll 328 = .ok (.iinc 5 1, 3) := by decide +kernel
theorem dX12_reachAll_331 : decode cX12_reachAll 331 = .ok (.goto (-231), 3) := by decide +kernel
theorem dX12_reachAll_334 : decode cX12_reachAll 334 = .ok (.iinc 4 1, 3) := by decide +kernel
theorem dX12_reachAll_337 : decode cX12_reachAll 337 = .ok (.goto (-251), 3) := by decide +kernel
theorem dX12_reachAll_340 : decode cX12_reachAll 340 = .ok (.goto (-263), 3) := by decide +kernel
theorem dX12_reachAll_343 : decode cX12_reachAll 343 = .ok (.return_, 1) := by decide +kernel
set_option maxRecDepth 20000 in
theorem ggX12_freightOf_X12_unitsOf : GoodIn wsX12_freightOf wsX12_unitsOf := goodIn_r _ [20, 10, 21, 22, 33, 34, 35, 36, 37, 38, 39, 40, 41, 42, 43, 44, 45, 46, 47, 48, 49, 50, 51, 52, 53, 54, 55, 56, 57, 58, 59, 60, 61, 62, 63, 64, 65, 66, 67, 68, 69, 70, 71, 72, 73] (by decide +kernel) (by decide +kernel)
set_option maxRecDepth 20000 in
theorem gX12_freightOf_X12_unitsOf : GoodIn wsX12_freightOf (wsV RX12 247 RX12 yX12_unitsOf wsX12_unitsOf) := goodIn_app (goodIn_of _ (by decide +kernel)) ggX12_freightOf_X12_unitsOf
set_option maxRecDepth 20000 in
theorem ggX12_freightOf_X12_lay : GoodIn wsX12_freightOf wsX12_lay := goodIn_r _ [26, 10, 21, 15, 22, 11, 27, 6, 7, 8, 3, 9, 14, 33, 34, 35, 36, 37, 38, 39, 40, 41, 42, 43, 44, 45, 46, 47, 48, 49, 50, 51, 52, 53, 54, 55, 56, 57, 58, 59, 60, 61, 62, 63, 64, 65, 66, 67, 68, 69, 70, 71, 72, 73] (by decide +kernel) (by decide +kernel)
set_option maxRecDepth 20000 in
theorem gX12_freightOf_X12_lay : GoodIn wsX12_freightOf (wsV RX12 254 RX12 yX12_lay wsX12_lay) := goodIn_app (goodIn_of _ (by decide +kernel)) ggX12_freightOf_X12_lay
set_option maxRecDepth 20000 in
theorem ggX12_freightOf_X12_reachAll : GoodIn wsX12_freightOf wsX12_reachAll := goodIn_r _ [31, 12, 10, 15, 32, 13, 21, 27, 14, 33, 34, 35, 36, 37, 38, 39, 40, 41, 42, 43, 44, 45, 46, 47, 48, 49, 50, 51, 52, 53, 54, 55, 56, 57, 58, 59, 60, 61, 62, 63, 64, 65, 66, 67, 68, 69, 70, 71, 72, 73] (by decide +kernel) (by decide +kernel)
set_option maxRecDepth 20000 in
theorem gX12_freightOf_X12_reachAll : GoodIn wsX12_freightOf (wsV RX12 257 RX12 yX12_reachAll wsX12_reachAll) := goodIn_app (goodIn_of _ (by decide +kernel)) ggX12_freightOf_X12_reachAll

theorem kl_9_264 : Cond.constantLong RX9 264 999 ∈ TBg := tb 1338 (by decide +kernel) rfl
theorem kl_9_334 : Cond.constantLong RX9 334 2 ∈ TBg := tb 1448 (by decide +kernel) rfl
theorem dX9_keepDraft_0 : decode cX9_keepDraft 0 = .ok (.aload_n 0, 1) := by decide +kernel
theorem dX9_keepDraft_1 : decode cX9_keepDraft 1 = .ok (.aload_n 0, 1) := by decide +kernel
theorem dX9_keepDraft_2 : decode cX9_keepDraft 2 = .ok (.getfield 80, 3) := by decide +kernel
theorem dX9_keepDraft_5 : decode cX9_keepDraft 5 = .ok (.putfield 93, 3) := by decide +kernel
theorem dX9_keepDraft_8 : decode cX9_keepDraft 8 = .ok (.aload_n 0, 1) := by decide +kernel
theorem dX9_keepDraft_9 : decode cX9_keepDraft 9 = .ok (.aload_n 0, 1) := by decide +kernel
theorem dX9_keepDraft_10 : decode cX9_keepDraft 10 = .ok (.getfield 84, 3) := by decide +kernel
theorem dX9_keepDraft_13 : decode cX9_keepDraft 13 = .ok (.putfield 96, 3) := by decide +kernel
theorem dX9_keepDraft_16 : decode cX9_keepDraft 16 = .ok (.aload_n 0, 1) := by decide +kernel
theorem dX9_keepDraft_17 : decode cX9_keepDraft 17 = .ok (.aload_n 0, 1) := by decide +kernel
theorem dX9_keepDraft_18 : decode cX9_keepDraft 18 = .ok (.getfield 87, 3) := by decide +kernel
theorem dX9_keepDraft_21 : decode cX9_keepDraft 21 = .ok (.putfield 99, 3) := by decide +kernel
theorem dX9_keepDraft_24 : decode cX9_keepDraft 24 = .ok (.aload_n 0, 1) := by decide +kernel
theorem dX9_keepDraft_25 : decode cX9_keepDraft 25 = .ok (.aload_n 0, 1) := by decide +kernel
theorem dX9_keepDraft_26 : decode cX9_keepDraft 26 = .ok (.getfield 90, 3) := by decide +kernel
theorem dX9_keepDraft_29 : decode cX9_keepDraft 29 = .ok (.putfield 102, 3) := by decide +kernel
theorem dX9_keepDraft_32 : decode cX9_keepDraft 32 = .ok (.iconst 0, 1) := by decide +kernel
theorem dX9_keepDraft_33 : decode cX9_keepDraft 33 = .ok (.istore_n 1, 1) := by decide +kernel
theorem dX9_keepDraft_34 : decode cX9_keepDraft 34 = .ok (.iload_n 1, 1) := by decide +kernel
theorem dX9_keepDraft_35 : decode cX9_keepDraft 35 = .ok (.bipush 32, 2) := by decide +kernel
theorem dX9_keepDraft_37 : decode cX9_keepDraft 37 = .ok (.if_icmp .ge 21, 3) := by decide +kernel
theorem dX9_keepDraft_40 : decode cX9_keepDraft 40 = .ok (.aload_n 0, 1) := by decide +kernel
theorem dX9_keepDraft_41 : decode cX9_keepDraft 41 = .ok (.getfield 17, 3) := by decide +kernel
theorem dX9_keepDraft_44 : decode cX9_keepDraft 44 = .ok (.iload_n 1, 1) := by decide +kernel
theorem dX9_keepDraft_45 : decode cX9_keepDraft 45 = .ok (.aload_n 0, 1) := by decide +kernel
theorem dX9_keepDraft_46 : decode cX9_keepDraft 46 = .ok (.getfield 32, 3) := by decide +kernel
theorem dX9_keepDraft_49 : decode cX9_keepDraft 49 = .ok (.iload_n 1, 1) := by decide +kernel
theorem dX9_keepDraft_50 : decode cX9_keepDraft 50 = .ok (.iaload, 1) := by decide +kernel
theorem dX9_keepDraft_51 : decode cX9_keepDraft 51 = .ok (.iastore, 1) := by decide +kernel
theorem dX9_keepDraft_52 : decode cX9_keepDraft 52 = .ok (.iinc 1 1, 3) := by decide +kernel
theorem dX9_keepDraft_55 : decode cX9_keepDraft 55 = .ok (.goto (-21), 3) := by decide +kernel
theorem dX9_keepDraft_58 : decode cX9_keepDraft 58 = .ok (.iconst 0, 1) := by decide +kernel
theorem dX9_keepDraft_59 : decode cX9_keepDraft 59 = .ok (.istore_n 1, 1) := by decide +kernel
theorem dX9_keepDraft_60 : decode cX9_keepDraft 60 = .ok (.iload_n 1, 1) := by decide +kernel
theorem dX9_keepDraft_61 : decode cX9_keepDraft 61 = .ok (.bipush 60, 2) := by decide +kernel
theorem dX9_keepDraft_63 : decode cX9_keepDraft 63 = .ok (.if_icmp .ge 21, 3) := by decide +kernel
theorem dX9_keepDraft_66 : decode cX9_keepDraft 66 = .ok (.aload_n 0, 1) := by decide +kernel
theorem dX9_keepDraft_67 : decode cX9_keepDraft 67 = .ok (.getfield 20, 3) := by decide +kernel
theorem dX9_keepDraft_70 : decode cX9_keepDraft 70 = .ok (.iload_n 1, 1) := by decide +kernel
theorem dX9_keepDraft_71 : decode cX9_keepDraft 71 = .ok (.aload_n 0, 1) := by decide +kernel
theorem dX9_keepDraft_72 : decode cX9_keepDraft 72 = .ok (.getfield 35, 3) := by decide +kernel
theorem dX9_keepDraft_75 : decode cX9_keepDraft 75 = .ok (.iload_n 1, 1) := by decide +kernel
theorem dX9_keepDraft_76 : decode cX9_keepDraft 76 = .ok (.iaload, 1) := by decide +kernel
theorem dX9_keepDraft_77 : decode cX9_keepDraft 77 = .ok (.iastore, 1) := by decide +kernel
theorem dX9_keepDraft_78 : decode cX9_keepDraft 78 = .ok (.iinc 1 1, 3) := by decide +kernel
theorem dX9_keepDraft_81 : decode cX9_keepDraft 81 = .ok (.goto (-21), 3) := by decide +kernel
theorem dX9_keepDraft_84 : decode cX9_keepDraft 84 = .ok (.iconst 0, 1) := by decide +kernel
theorem dX9_keepDraft_85 : decode cX9_keepDraft 85 = .ok (.istore_n 1, 1) := by decide +kernel
theorem dX9_keepDraft_86 : decode cX9_keepDraft 86 = .ok (.iload_n 1, 1) := by decide +kernel
theorem dX9_keepDraft_87 : decode cX9_keepDraft 87 = .ok (.bipush 12, 2) := by decide +kernel
theorem dX9_keepDraft_89 : decode cX9_keepDraft 89 = .ok (.if_icmp .ge 21, 3) := by decide +kernel
theorem dX9_keepDraft_92 : decode cX9_keepDraft 92 = .ok (.aload_n 0, 1) := by decide +kernel
theorem dX9_keepDraft_93 : decode cX9_keepDraft 93 = .ok (.getfield 23, 3) := by decide +kernel
theorem dX9_keepDraft_96 : decode cX9_keepDraft 96 = .ok (.iload_n 1, 1) := by decide +kernel
theorem dX9_keepDraft_97 : decode cX9_keepDraft 97 = .ok (.aload_n 0, 1) := by decide +kernel
theorem dX9_keepDraft_98 : decode cX9_keepDraft 98 = .ok (.getfield 38, 3) := by decide +kernel
theorem dX9_keepDraft_101 : decode cX9_keepDraft 101 = .ok (.iload_n 1, 1) := by decide +kernel
theorem dX9_keepDraft_102 : decode cX9_keepDraft 102 = .ok (.iaload, 1) := by decide +kernel
theorem dX9_keepDraft_103 : decode cX9_keepDraft 103 = .ok (.iastore, 1) := by decide +kernel
theorem dX9_keepDraft_104 : decode cX9_keepDraft 104 = .ok (.iinc 1 1, 3) := by decide +kernel
theorem dX9_keepDraft_107 : decode cX9_keepDraft 107 = .ok (.goto (-21), 3) := by decide +kernel
theorem dX9_keepDraft_110 : decode cX9_keepDraft 110 = .ok (.iconst 0, 1) := by decide +kernel
theorem dX9_keepDraft_111 : decode cX9_keepDraft 111 = .ok (.istore_n 1, 1) := by decide +kernel
theorem dX9_keepDraft_112 : decode cX9_keepDraft 112 = .ok (.iload_n 1, 1) := by decide +kernel
theorem dX9_keepDraft_113 : decode cX9_keepDraft 113 = .ok (.bipush 6, 2) := by decide +kernel
theorem dX9_keepDraft_115 : decode cX9_keepDraft 115 = .ok (.if_icmp .ge 21, 3) := by decide +kernel
theorem dX9_keepDraft_118 : decode cX9_keepDraft 118 = .ok (.aload_n 0, 1) := by decide +kernel
theorem dX9_keepDraft_119 : decode cX9_keepDraft 119 = .ok (.getfield 26, 3) := by decide +kernel
theorem dX9_keepDraft_122 : decode cX9_keepDraft 122 = .ok (.iload_n 1, 1) := by decide +kernel
theorem dX9_keepDraft_123 : decode cX9_keepDraft 123 = .ok (.aload_n 0, 1) := by decide +kernel
theorem dX9_keepDraft_124 : decode cX9_keepDraft 124 = .ok (.getfield 41, 3) := by decide +kernel
theorem dX9_keepDraft_127 : decode cX9_keepDraft 127 = .ok (.iload_n 1, 1) := by decide +kernel
theorem dX9_keepDraft_128 : decode cX9_keepDraft 128 = .ok (.iaload, 1) := by decide +kernel
theorem dX9_keepDraft_129 : decode cX9_keepDraft 129 = .ok (.iastore, 1) := by decide +kernel
theorem dX9_keepDraft_130 : decode cX9_keepDraft 130 = .ok (.iinc 1 1, 3) := by decide +kernel
theorem dX9_keepDraft_133 : decode cX9_keepDraft 133 = .ok (.goto (-21), 3) := by decide +kernel
theorem dX9_keepDraft_136 : decode cX9_keepDraft 136 = .ok (.iconst 0, 1) := by decide +kernel
theorem dX9_keepDraft_137 : decode cX9_keepDraft 137 = .ok (.istore_n 1, 1) := by decide +kernel
theorem dX9_keepDraft_138 : decode cX9_keepDraft 138 = .ok (.iload_n 1, 1) := by decide +kernel
theorem dX9_keepDraft_139 : decode cX9_keepDraft 139 = .ok (.iconst 5, 1) := by decide +kernel
theorem dX9_keepDraft_140 : decode cX9_keepDraft 140 = .ok (.if_icmp .ge 21, 3) := by decide +kernel
theorem dX9_keepDraft_143 : decode cX9_keepDraft 143 = .ok (.aload_n 0, 1) := by decide +kernel
theorem dX9_keepDraft_144 : decode cX9_keepDraft 144 = .ok (.getfield 29, 3) := by decide +kernel
theorem dX9_keepDraft_147 : decode cX9_keepDraft 147 = .ok (.iload_n 1, 1) := by decide +kernel
theorem dX9_keepDraft_148 : decode cX9_keepDraft 148 = .ok (.aload_n 0, 1) := by decide +kernel
theorem dX9_keepDraft_149 : decode cX9_keepDraft 149 = .ok (.getfield 44, 3) := by decide +kernel
theorem dX9_keepDraft_152 : decode cX9_keepDraft 152 = .ok (.iload_n 1, 1) := by decide +kernel
theorem dX9_keepDraft_153 : decode cX9_keepDraft 153 = .ok (.iaload, 1) := by decide +kernel
theorem dX9_keepDraft_154 : decode cX9_keepDraft 154 = .ok (.iastore, 1) := by decide +kernel
theorem dX9_keepDraft_155 : decode cX9_keepDraft 155 = .ok (.iinc 1 1, 3) := by decide +kernel
theorem dX9_keepDraft_158 : decode cX9_keepDraft 158 = .ok (.goto (-20), 3) := by decide +kernel
theorem dX9_keepDraft_161 : decode cX9_keepDraft 161 = .ok (.iconst 0, 1) := by decide +kernel
theorem dX9_keepDraft_162 : decode cX9_keepDraft 162 = .ok (.istore_n 1, 1) := by decide +kernel
theorem dX9_keepDraft_163 : decode cX9_keepDraft 163 = .ok (.iload_n 1, 1) := by decide +kernel
theorem dX9_keepDraft_164 : decode cX9_keepDraft 164 = .ok (.sipush 128, 3) := by decide +kernel
theorem dX9_keepDraft_167 : decode cX9_keepDraft 167 = .ok (.if_icmp .ge 18, 3) := by decide +kernel
theorem dX9_keepDraft_170 : decode cX9_keepDraft 170 = .ok (.aload_n 0, 1) := by decide +kernel
theorem dX9_keepDraft_171 : decode cX9_keepDraft 171 = .ok (.getfield 7, 3) := by decide +kernel
theorem dX9_keepDraft_174 : decode cX9_keepDraft 174 = .ok (.iconst 0, 1) := by decide +kernel
theorem dX9_keepDraft_175 : decode cX9_keepDraft 175 = .ok (.iload_n 1, 1) := by decide +kernel
theorem dX9_keepDraft_176 : decode cX9_keepDraft 176 = .ok (.iadd, 1) := by decide +kernel
theorem dX9_keepDraft_177 : decode cX9_keepDraft 177 = .ok (.iconst 0, 1) := by decide +kernel
theorem dX9_keepDraft_178 : decode cX9_keepDraft 178 = .ok (.iastore, 1) := by decide +kernel
theorem dX9_keepDraft_179 : decode cX9_keepDraft 179 = .ok (.iinc 1 1, 3) := by decide +kernel
theorem dX9_keepDraft_182 : decode cX9_keepDraft 182 = .ok (.goto (-19), 3) := by decide +kernel
theorem dX9_keepDraft_185 : decode cX9_keepDraft 185 = .ok (.iconst 0, 1) := by decide +kernel
theorem dX9_keepDraft_186 : decode cX9_keepDraft 186 = .ok (.istore_n 1, 1) := by decide +kernel
theorem dX9_keepDraft_187 : decode cX9_keepDraft 187 = .ok (.iload_n 1, 1) := by decide +kernel
theorem dX9_keepDraft_188 : decode cX9_keepDraft 188 = .ok (.aload_n 0, 1) := by decide +kernel
theorem dX9_keepDraft_189 : decode cX9_keepDraft 189 = .ok (.getfield 93, 3) := by decide +kernel
theorem dX9_keepDraft_192 : decode cX9_keepDraft 192 = .ok (.if_icmp .ge 27, 3) := by decide +kernel
theorem dX9_keepDraft_195 : decode cX9_keepDraft 195 = .ok (.aload_n 0, 1) := by decide +kernel
theorem dX9_keepDraft_196 : decode cX9_keepDraft 196 = .ok (.getfield 7, 3) := by decide +kernel
theorem dX9_keepDraft_199 : decode cX9_keepDraft 199 = .ok (.iconst 0, 1) := by decide +kernel
theorem dX9_keepDraft_200 : decode cX9_keepDraft 200 = .ok (.iload_n 1, 1) := by decide +kernel
theorem dX9_keepDraft_201 : decode cX9_keepDraft 201 = .ok (.iadd, 1) := by decide +kernel
theorem dX9_keepDraft_202 : decode cX9_keepDraft 202 = .ok (.aload_n 0, 1) := by decide +kernel
theorem dX9_keepDraft_203 : decode cX9_keepDraft 203 = .ok (.getfield 17, 3) := by decide +kernel
theorem dX9_keepDraft_206 : decode cX9_keepDraft 206 = .ok (.iconst 4, 1) := by decide +kernel
theorem dX9_keepDraft_207 : decode cX9_keepDraft 207 = .ok (.iload_n 1, 1) := by decide +kernel
theorem dX9_keepDraft_208 : decode cX9_keepDraft 208 = .ok (.imul, 1) := by decide +kernel
theorem dX9_keepDraft_209 : decode cX9_keepDraft 209 = .ok (.iconst 3, 1) := by decide +kernel
theorem dX9_keepDraft_210 : decode cX9_keepDraft 210 = .ok (.iadd, 1) := by decide +kernel
theorem dX9_keepDraft_211 : decode cX9_keepDraft 211 = .ok (.iaload, 1) := by decide +kernel
theorem dX9_keepDraft_212 : decode cX9_keepDraft 212 = .ok (.iastore, 1) := by decide +kernel
theorem dX9_keepDraft_213 : decode cX9_keepDraft 213 = .ok (.iinc 1 1, 3) := by decide +kernel
theorem dX9_keepDraft_216 : decode cX9_keepDraft 216 = .ok (.goto (-29), 3) := by decide +kernel
theorem dX9_keepDraft_219 : decode cX9_keepDraft 219 = .ok (.iconst 0, 1) := by decide +kernel
theorem dX9_keepDraft_220 : decode cX9_keepDraft 220 = .ok (.istore_n 1, 1) := by decide +kernel
theorem dX9_keepDraft_221 : decode cX9_keepDraft 221 = .ok (.iload_n 1, 1) := by decide +kernel
theorem dX9_keepDraft_222 : decode cX9_keepDraft 222 = .ok (.aload_n 0, 1) := by decide +kernel
theorem dX9_keepDraft_223 : decode cX9_keepDraft 223 = .ok (.getfield 96, 3) := by decide +kernel
theorem dX9_keepDraft_226 : decode cX9_keepDraft 226 = .ok (.if_icmp .ge 29, 3) := by decide +kernel
theorem dX9_keepDraft_229 : decode cX9_keepDraft 229 = .ok (.aload_n 0, 1) := by decide +kernel
theorem dX9_keepDraft_230 : decode cX9_keepDraft 230 = .ok (.getfield 7, 3) := by decide +kernel
theorem dX9_keepDraft_233 : decode cX9_keepDraft 233 = .ok (.bipush 16, 2) := by decide +kernel
theorem dX9_keepDraft_235 : decode cX9_keepDraft 235 = .ok (.iload_n 1, 1) := by decide +kernel
theorem dX9_keepDraft_236 : decode cX9_keepDraft 236 = .ok (.iadd, 1) := by decide +kernel
theorem dX9_keepDraft_237 : decode cX9_keepDraft 237 = .ok (.aload_n 0, 1) := by decide +kernel
theorem dX9_keepDraft_238 : decode cX9_keepDraft 238 = .ok (.getfield 20, 3) := by decide +kernel
theorem dX9_keepDraft_241 : decode cX9_keepDraft 241 = .ok (.bipush 6, 2) := by decide +kernel
theorem dX9_keepDraft_243 : decode cX9_keepDraft 243 = .ok (.iload_n 1, 1) := by decide +kernel
theorem dX9_keepDraft_244 : decode cX9_keepDraft 244 = .ok (.imul, 1) := by decide +kernel
theorem dX9_keepDraft_245 : decode cX9_keepDraft 245 = .ok (.iconst 5, 1) := by decide +kernel
theorem dX9_keepDraft_246 : decode cX9_keepDraft 246 = .ok (.iadd, 1) := by decide +kernel
theorem dX9_keepDraft_247 : decode cX9_keepDraft 247 = .ok (.iaload, 1) := by decide +kernel
theorem dX9_keepDraft_248 : decode cX9_keepDraft 248 = .ok (.iastore, 1) := by decide +kernel
theorem dX9_keepDraft_249 : decode cX9_keepDraft 249 = .ok (.iinc 1 1, 3) := by decide +kernel
theorem dX9_keepDraft_252 : decode cX9_keepDraft 252 = .ok (.goto (-31), 3) := by decide +kernel
theorem dX9_keepDraft_255 : decode cX9_keepDraft 255 = .ok (.iconst 0, 1) := by decide +kernel
theorem dX9_keepDraft_256 : decode cX9_keepDraft 256 = .ok (.istore_n 1, 1) := by decide +kernel
theorem dX9_keepDraft_257 : decode cX9_keepDraft 257 = .ok (.iload_n 1, 1) := by decide +kernel
theorem dX9_keepDraft_258 : decode cX9_keepDraft 258 = .ok (.aload_n 0, 1) := by decide +kernel
theorem dX9_keepDraft_259 : decode cX9_keepDraft 259 = .ok (.getfield 102, 3) := by decide +kernel
theorem dX9_keepDraft_262 : decode cX9_keepDraft 262 = .ok (.if_icmp .ge 28, 3) := by decide +kernel
theorem dX9_keepDraft_265 : decode cX9_keepDraft 265 = .ok (.aload_n 0, 1) := by decide +kernel
theorem dX9_keepDraft_266 : decode cX9_keepDraft 266 = .ok (.getfield 7, 3) := by decide +kernel
theorem dX9_keepDraft_269 : decode cX9_keepDraft 269 = .ok (.bipush 44, 2) := by decide +kernel
theorem dX9_keepDraft_271 : decode cX9_keepDraft 271 = .ok (.iload_n 1, 1) := by decide +kernel
theorem dX9_keepDraft_272 : decode cX9_keepDraft 272 = .ok (.iadd, 1) := by decide +kernel
theorem dX9_keepDraft_273 : decode cX9_keepDraft 273 = .ok (.aload_n 0, 1) := by decide +kernel
theorem dX9_keepDraft_274 : decode cX9_keepDraft 274 = .ok (.getfield 26, 3) := by decide +kernel
theorem dX9_keepDraft_277 : decode cX9_keepDraft 277 = .ok (.iconst 2, 1) := by decide +kernel
theorem dX9_keepDraft_278 : decode cX9_keepDraft 278 = .ok (.iload_n 1, 1) := by decide +kernel
theorem dX9_keepDraft_279 : decode cX9_keepDraft 279 = .ok (.imul, 1) := by decide +kernel
theorem dX9_keepDraft_280 : decode cX9_keepDraft 280 = .ok (.iconst 1, 1) := by decide +kernel
theorem dX9_keepDraft_281 : decode cX9_keepDraft 281 = .ok (.iadd, 1) := by decide +kernel
theorem dX9_keepDraft_282 : decode cX9_keepDraft 282 = .ok (.iaload, 1) := by decide +kernel
theorem dX9_keepDraft_283 : decode cX9_keepDraft 283 = .ok (.iastore, 1) := by decide +kernel
theorem dX9_keepDraft_284 : decode cX9_keepDraft 284 = .ok (.iinc 1 1, 3) := by decide +kernel
theorem dX9_keepDraft_287 : decode cX9_keepDraft 287 = .ok (.goto (-30), 3) := by decide +kernel
theorem dX9_keepDraft_290 : decode cX9_keepDraft 290 = .ok (.aload_n 0, 1) := by decide +kernel
theorem dX9_keepDraft_291 : decode cX9_keepDraft 291 = .ok (.getfield 7, 3) := by decide +kernel
theorem dX9_keepDraft_294 : decode cX9_keepDraft 294 = .ok (.bipush 73, 2) := by decide +kernel
theorem dX9_keepDraft_296 : decode cX9_keepDraft 296 = .ok (.bipush (-4), 2) := by decide +kernel
theorem dX9_keepDraft_298 : decode cX9_keepDraft 298 = .ok (.iastore, 1) := by decide +kernel
theorem dX9_keepDraft_299 : decode cX9_keepDraft 299 = .ok (.aload_n 0, 1) := by decide +kernel
theorem dX9_keepDraft_300 : decode cX9_keepDraft 300 = .ok (.getfield 13, 3) := by decide +kernel
theorem dX9_keepDraft_303 : decode cX9_keepDraft 303 = .ok (.iconst 0, 1) := by decide +kernel
theorem dX9_keepDraft_304 : decode cX9_keepDraft 304 = .ok (.iconst 0, 1) := by decide +kernel
theorem dX9_keepDraft_305 : decode cX9_keepDraft 305 = .ok (.bastore, 1) := by decide +kernel
theorem dX9_keepDraft_306 : decode cX9_keepDraft 306 = .ok (.aload_n 0, 1) := by decide +kernel
theorem dX9_keepDraft_307 : decode cX9_keepDraft 307 = .ok (.getfield 13, 3) := by decide +kernel
theorem dX9_keepDraft_310 : decode cX9_keepDraft 310 = .ok (.iconst 1, 1) := by decide +kernel
theorem dX9_keepDraft_311 : decode cX9_keepDraft 311 = .ok (.iconst 0, 1) := by decide +kernel
theorem dX9_keepDraft_312 : decode cX9_keepDraft 312 = .ok (.bastore, 1) := by decide +kernel
theorem dX9_keepDraft_313 : decode cX9_keepDraft 313 = .ok (.aload_n 0, 1) := by decide +kernel
theorem dX9_keepDraft_314 : decode cX9_keepDraft 314 = .ok (.iconst 0, 1) := by decide +kernel
theorem dX9_keepDraft_315 : decode cX9_keepDraft 315 = .ok (.invokevirtual 105, 3) := by decide +kernel
theorem dX9_keepDraft_318 : decode cX9_keepDraft 318 = .ok (.return_, 1) := by decide +kernel
theorem dX9_isOrder_0 : decode cX9_isOrder 0 = .ok (.lload_n 1, 1) := by decide +kernel
theorem dX9_isOrder_1 : decode cX9_isOrder 1 = .ok (.aload_n 0, 1) := by decide +kernel
theorem dX9_isOrder_2 : decode cX9_isOrder 2 = .ok (.getfield 7, 3) := by decide +kernel
theorem dX9_isOrder_5 : decode cX9_isOrder 5 = .ok (.bipush 71, 2) := by decide +kernel
theorem dX9_isOrder_7 : decode cX9_isOrder 7 = .ok (.iaload, 1) := by decide +kernel
theorem dX9_isOrder_8 : decode cX9_isOrder 8 = .ok (.i2l, 1) := by decide +kernel
theorem dX9_isOrder_9 : decode cX9_isOrder 9 = .ok (.ldc2_w 264, 3) := by decide +kernel
theorem dX9_isOrder_12 : decode cX9_isOrder 12 = .ok (.invokestatic 114, 3) := by decide +kernel
theorem dX9_isOrder_15 : decode cX9_isOrder 15 = .ok (.ifCond .ne 5, 3) := by decide +kernel
theorem dX9_isOrder_18 : decode cX9_isOrder 18 = .ok (.iconst 0, 1) := by decide +kernel
theorem dX9_isOrder_19 : decode cX9_isOrder 19 = .ok (.ireturn, 1) := by decide +kernel
theorem dX9_isOrder_20 : decode cX9_isOrder 20 = .ok (.iload_n 3, 1) := by decide +kernel
theorem dX9_isOrder_21 : decode cX9_isOrder 21 = .ok (.tableswitch 122 0 4 #[35, 35, 42, 57, 96], 35) := by decide +kernel
theorem dX9_isOrder_56 : decode cX9_isOrder 56 = .ok (.aload_n 0, 1) := by decide +kernel
theorem dX9_isOrder_57 : decode cX9_isOrder 57 = .ok (.iload 4, 2) := by decide +kernel
theorem dX9_isOrder_59 : decode cX9_isOrder 59 = .ok (.invokevirtual 226, 3) := by decide +kernel
theorem dX9_isOrder_62 : decode cX9_isOrder 62 = .ok (.ireturn, 1) := by decide +kernel
theorem dX9_isOrder_63 : decode cX9_isOrder 63 = .ok (.iload 4, 2) := by decide +kernel
theorem dX9_isOrder_65 : decode cX9_isOrder 65 = .ok (.i2l, 1) := by decide +kernel
theorem dX9_isOrder_66 : decode cX9_isOrder 66 = .ok (.lconst 0, 1) := by decide +kernel
theorem dX9_isOrder_67 : decode cX9_isOrder 67 = .ok (.aload_n 0, 1) := by decide +kernel
theorem dX9_isOrder_68 : decode cX9_isOrder 68 = .ok (.getfield 99, 3) := by decide +kernel
theorem dX9_isOrder_71 : decode cX9_isOrder 71 = .ok (.iconst 1, 1) := by decide +kernel
theorem dX9_isOrder_72 : decode cX9_isOrder 72 = .ok (.isub, 1) := by decide +kernel
theorem dX9_isOrder_73 : decode cX9_isOrder 73 = .ok (.i2l, 1) := by decide +kernel
theorem dX9_isOrder_74 : decode cX9_isOrder 74 = .ok (.invokestatic 114, 3) := by decide +kernel
theorem dX9_isOrder_77 : decode cX9_isOrder 77 = .ok (.ireturn, 1) := by decide +kernel
theorem dX9_isOrder_78 : decode cX9_isOrder 78 = .ok (.iload 4, 2) := by decide +kernel
theorem dX9_isOrder_80 : decode cX9_isOrder 80 = .ok (.i2l, 1) := by decide +kernel
theorem dX9_isOrder_81 : decode cX9_isOrder 81 = .ok (.lconst 0, 1) := by decide +kernel
theorem dX9_isOrder_82 : decode cX9_isOrder 82 = .ok (.aload_n 0, 1) := by decide +kernel
theorem dX9_isOrder_83 : decode cX9_isOrder 83 = .ok (.getfield 102, 3) := by decide +kernel
theorem dX9_isOrder_86 : decode cX9_isOrder 86 = .ok (.iconst 1, 1) := by decide +kernel
theorem dX9_isOrder_87 : decode cX9_isOrder 87 = .ok (.isub, 1) := by decide +kernel
theorem dX9_isOrder_88 : decode cX9_isOrder 88 = .ok (.i2l, 1) := by decide +kernel
theorem dX9_isOrder_89 : decode cX9_isOrder 89 = .ok (.invokestatic 114, 3) := by decide +kernel
theorem dX9_isOrder_92 : decode cX9_isOrder 92 = .ok (.ifCond .eq 23, 3) := by decide +kernel
theorem dX9_isOrder_95 : decode cX9_isOrder 95 = .ok (.iload 5, 2) := by decide +kernel
theorem dX9_isOrder_97 : decode cX9_isOrder 97 = .ok (.bipush (-4), 2) := by decide +kernel
theorem dX9_isOrder_99 : decode cX9_isOrder 99 = .ok (.if_icmp .eq 12, 3) := by decide +kernel
theorem dX9_isOrder_102 : decode cX9_isOrder 102 = .ok (.aload_n 0, 1) := by decide +kernel
theorem dX9_isOrder_103 : decode cX9_isOrder 103 = .ok (.iload 5, 2) := by decide +kernel
theorem dX9_isOrder_105 : decode cX9_isOrder 105 = .ok (.invokevirtual 220, 3) := by decide +kernel
theorem dX9_isOrder_108 : decode cX9_isOrder 108 = .ok (.ifCond .eq 7, 3) := by decide +kernel
theorem dX9_isOrder_111 : decode cX9_isOrder 111 = .ok (.iconst 1, 1) := by decide +kernel
theorem dX9_isOrder_112 : decode cX9_isOrder 112 = .ok (.goto 4, 3) := by decide +kernel
theorem dX9_isOrder_115 : decode cX9_isOrder 115 = .ok (.iconst 0, 1) := by decide +kernel
theorem dX9_isOrder_116 : decode cX9_isOrder 116 = .ok (.ireturn, 1) := by decide +kernel
theorem dX9_isOrder_117 : decode cX9_isOrder 117 = .ok (.aload_n 0, 1) := by decide +kernel
theorem dX9_isOrder_118 : decode cX9_isOrder 118 = .ok (.iload 4, 2) := by decide +kernel
theorem dX9_isOrder_120 : decode cX9_isOrder 120 = .ok (.invokevirtual 220, 3) := by decide +kernel
theorem dX9_isOrder_123 : decode cX9_isOrder 123 = .ok (.ifCond .eq 18, 3) := by decide +kernel
theorem dX9_isOrder_126 : decode cX9_isOrder 126 = .ok (.iload 5, 2) := by decide +kernel
theorem dX9_isOrder_128 : decode cX9_isOrder 128 = .ok (.i2l, 1) := by decide +kernel
theorem dX9_isOrder_129 : decode cX9_isOrder 129 = .ok (.lconst 0, 1) := by decide +kernel
theorem dX9_isOrder_130 : decode cX9_isOrder 130 = .ok (.lconst 1, 1) := by decide +kernel
theorem dX9_isOrder_131 : decode cX9_isOrder 131 = .ok (.invokestatic 114, 3) := by decide +kernel
theorem dX9_isOrder_134 : decode cX9_isOrder 134 = .ok (.ifCond .eq 7, 3) := by decide +kernel
theorem dX9_isOrder_137 : decode cX9_isOrder 137 = .ok (.iconst 1, 1) := by decide +kernel
theorem dX9_isOrder_138 : decode cX9_isOrder 138 = .ok (.goto 4, 3) := by decide +kernel
theorem dX9_isOrder_141 : decode cX9_isOrder 141 = .ok (.iconst 0, 1) := by decide +kernel
theorem dX9_isOrder_142 : decode cX9_isOrder 142 = .ok (.ireturn, 1) := by decide +kernel
theorem dX9_isOrder_143 : decode cX9_isOrder 143 = .ok (.iconst 0, 1) := by decide +kernel
theorem dX9_isOrder_144 : decode cX9_isOrder 144 = .ok (.ireturn, 1) := by decide +kernel
theorem dX9_isSheet_0 : decode cX9_isSheet 0 = .ok (.iload_n 0, 1) := by decide +kernel
theorem dX9_isSheet_1 : decode cX9_isSheet 1 = .ok (.i2l, 1) := by decide +kernel
theorem dX9_isSheet_2 : decode cX9_isSheet 2 = .ok (.lconst 0, 1) := by decide +kernel
theorem dX9_isSheet_3 : decode cX9_isSheet 3 = .ok (.ldc2_w 308, 3) := by decide +kernel
theorem dX9_isSheet_6 : decode cX9_isSheet 6 = .ok (.invokestatic 114, 3) := by decide +kernel
theorem dX9_isSheet_9 : decode cX9_isSheet 9 = .ok (.ifCond .eq 19, 3) := by decide +kernel
theorem dX9_isSheet_12 : decode cX9_isSheet 12 = .ok (.iload_n 1, 1) := by decide +kernel
theorem dX9_isSheet_13 : decode cX9_isSheet 13 = .ok (.i2l, 1) := by decide +kernel
theorem dX9_isSheet_14 : decode cX9_isSheet 14 = .ok (.lconst 0, 1) := by decide +kernel
theorem dX9_isSheet_15 : decode cX9_isSheet 15 = .ok (.ldc2_w 334, 3) := by decide +kernel
theorem dX9_isSheet_18 : decode cX9_isSheet 18 = .ok (.invokestatic 114, 3) := by decide +kernel
theorem dX9_isSheet_21 : decode cX9_isSheet 21 = .ok (.ifCond .eq 7, 3) := by decide +kernel
theorem dX9_isSheet_24 : decode cX9_isSheet 24 = .ok (.iconst 1, 1) := by decide +kernel
theorem dX9_isSheet_25 : decode cX9_isSheet 25 = .ok (.goto 4, 3) := by decide +kernel
theorem dX9_isSheet_28 : decode cX9_isSheet 28 = .ok (.iconst 0, 1) := by decide +kernel
theorem dX9_isSheet_29 : decode cX9_isSheet 29 = .ok (.ireturn, 1) := by decide +kernel
theorem dX9_keep_0 : decode cX9_keep 0 = .ok (.iload_n 1, 1) := by decide +kernel
theorem dX9_keep_1 : decode cX9_keep 1 = .ok (.i2l, 1) := by decide +kernel
theorem dX9_keep_2 : decode cX9_keep 2 = .ok (.lconst 0, 1) := by decide +kernel
theorem dX9_keep_3 : decode cX9_keep 3 = .ok (.lconst 1, 1) := by decide +kernel
theorem dX9_keep_4 : decode cX9_keep 4 = .ok (.invokestatic 114, 3) := by decide +kernel
theorem dX9_keep_7 : decode cX9_keep 7 = .ok (.ifCond .ne 5, 3) := by decide +kernel
theorem dX9_keep_10 : decode cX9_keep 10 = .ok (.iconst (-1), 1) := by decide +kernel
theorem dX9_keep_11 : decode cX9_keep 11 = .ok (.ireturn, 1) := by decide +kernel
theorem dX9_keep_12 : decode cX9_keep 12 = .ok (.aload_n 0, 1) := by decide +kernel
theorem dX9_keep_13 : decode cX9_keep 13 = .ok (.getfield 13, 3) := by decide +kernel
theorem dX9_keep_16 : decode cX9_keep 16 = .ok (.iload_n 1, 1) := by decide +kernel
theorem dX9_keep_17 : decode cX9_keep 17 = .ok (.baload, 1) := by decide +kernel
theorem dX9_keep_18 : decode cX9_keep 18 = .ok (.invokestatic 174, 3) := by decide +kernel
theorem dX9_keep_21 : decode cX9_keep 21 = .ok (.istore_n 2, 1) := by decide +kernel
theorem dX9_keep_22 : decode cX9_keep 22 = .ok (.aload_n 0, 1) := by decide +kernel
theorem dX9_keep_23 : decode cX9_keep 23 = .ok (.getfield 13, 3) := by decide +kernel
theorem dX9_keep_26 : decode cX9_keep 26 = .ok (.iload_n 1, 1) := by decide +kernel
theorem dX9_keep_27 : decode cX9_keep 27 = .ok (.iconst 1, 1) := by decide +kernel
theorem dX9_keep_28 : decode cX9_keep 28 = .ok (.bastore, 1) := by decide +kernel
theorem dX9_keep_29 : decode cX9_keep 29 = .ok (.aload_n 0, 1) := by decide +kernel
theorem dX9_keep_30 : decode cX9_keep 30 = .ok (.sipush 128, 3) := by decide +kernel
theorem dX9_keep_33 : decode cX9_keep 33 = .ok (.sipush 128, 3) := by decide +kernel
theorem dX9_keep_36 : decode cX9_keep 36 = .ok (.iload_n 1, 1) := by decide +kernel
theorem dX9_keep_37 : decode cX9_keep 37 = .ok (.imul, 1) := by decide +kernel
theorem dX9_keep_38 : decode cX9_keep 38 = .ok (.iadd, 1) := by decide +kernel
theorem dX9_keep_39 : decode cX9_keep 39 = .ok (.iconst 0, 1) := by decide +kernel
theorem dX9_keep_40 : decode cX9_keep 40 = .ok (.invokevirtual 261, 3) := by decide +kernel
theorem dX9_keep_43 : decode cX9_keep 43 = .ok (.iload_n 2, 1) := by decide +kernel
theorem dX9_keep_44 : decode cX9_keep 44 = .ok (.ireturn, 1) := by decide +kernel
theorem dX9_latest_0 : decode cX9_latest 0 = .ok (.aload_n 0, 1) := by decide +kernel
theorem dX9_latest_1 : decode cX9_latest 1 = .ok (.iload_n 1, 1) := by decide +kernel
theorem dX9_latest_2 : decode cX9_latest 2 = .ok (.invokevirtual 226, 3) := by decide +kernel
theorem dX9_latest_5 : decode cX9_latest 5 = .ok (.ifCond .eq 15, 3) := by decide +kernel
theorem dX9_latest_8 : decode cX9_latest 8 = .ok (.iload_n 2, 1) := by decide +kernel
theorem dX9_latest_9 : decode cX9_latest 9 = .ok (.i2l, 1) := by decide +kernel
theorem dX9_latest_10 : decode cX9_latest 10 = .ok (.lconst 1, 1) := by decide +kernel
theorem dX9_latest_11 : decode cX9_latest 11 = .ok (.ldc2_w 310, 3) := by decide +kernel
theorem dX9_latest_14 : decode cX9_latest 14 = .ok (.invokestatic 114, 3) := by decide +kernel
theorem dX9_latest_17 : decode cX9_latest 17 = .ok (.ifCond .ne 5, 3) := by decide +kernel
theorem dX9_latest_20 : decode cX9_latest 20 = .ok (.iconst (-1), 1) := by decide +kernel
theorem dX9_latest_21 : decode cX9_latest 21 = .ok (.ireturn, 1) := by decide +kernel
theorem dX9_latest_22 : decode cX9_latest 22 = .ok (.aload_n 0, 1) := by decide +kernel
theorem dX9_latest_23 : decode cX9_latest 23 = .ok (.iload_n 1, 1) := by decide +kernel
theorem dX9_latest_24 : decode cX9_latest 24 = .ok (.invokevirtual 318, 3) := by decide +kernel
theorem dX9_latest_27 : decode cX9_latest 27 = .ok (.ifCond .ne 6, 3) := by decide +kernel
theorem dX9_latest_30 : decode cX9_latest 30 = .ok (.bipush (-2), 2) := by decide +kernel
theorem dX9_latest_32 : decode cX9_latest 32 = .ok (.ireturn, 1) := by decide +kernel
theorem dX9_latest_33 : decode cX9_latest 33 = .ok (.iload_n 2, 1) := by decide +kernel
theorem dX9_latest_34 : decode cX9_latest 34 = .ok (.istore_n 3, 1) := by decide +kernel
theorem dX9_latest_35 : decode cX9_latest 35 = .ok (.iload_n 3, 1) := by decide +kernel
theorem dX9_latest_36 : decode cX9_latest 36 = .ok (.ifCond .lt 21, 3) := by decide +kernel
theorem dX9_latest_39 : decode cX9_latest 39 = .ok (.aload_n 0, 1) := by decide +kernel
theorem dX9_latest_40 : decode cX9_latest 40 = .ok (.iload_n 1, 1) := by decide +kernel
theorem dX9_latest_41 : decode cX9_latest 41 = .ok (.iload_n 3, 1) := by decide +kernel
theorem dX9_latest_42 : decode cX9_latest 42 = .ok (.iload_n 2, 1) := by decide +kernel
theorem dX9_latest_43 : decode cX9_latest 43 = .ok (.invokevirtual 321, 3) := by decide +kernel
theorem dX9_latest_46 : decode cX9_latest 46 = .ok (.bipush (-4), 2) := by decide +kernel
theorem dX9_latest_48 : decode cX9_latest 48 = .ok (.if_icmp .eq 9, 3) := by decide +kernel
theorem dX9_latest_51 : decode cX9_latest 51 = .ok (.iinc 3 (-1), 3) := by decide +kernel
theorem dX9_latest_54 : decode cX9_latest 54 = .ok (.goto (-19), 3) := by decide +kernel
theorem dX9_latest_57 : decode cX9_latest 57 = .ok (.iload_n 3, 1) := by decide +kernel
theorem dX9_latest_58 : decode cX9_latest 58 = .ok (.ifCond .ge 8, 3) := by decide +kernel
theorem dX9_latest_61 : decode cX9_latest 61 = .ok (.bipush (-4), 2) := by decide +kernel
theorem dX9_latest_63 : decode cX9_latest 63 = .ok (.goto 4, 3) := by decide +kernel
theorem dX9_latest_66 : decode cX9_latest 66 = .ok (.iload_n 3, 1) := by decide +kernel
theorem dX9_latest_67 : decode cX9_latest 67 = .ok (.ireturn, 1) := by decide +kernel
def b_X9_keepDraft_34  (t5 : Int32 × Mm) : Option ((Int32 × Mm) ⊕ (Mm)) :=
  if (32 : Int32) ≤ t5.1 then (some (Sum.inr t5.2)) else ((ald t5.2 121 32 t5.1).bind fun x7 => (ast t5.2 116 32 t5.1 x7).bind fun m8 => some (Sum.inl (t5.1 + 1, m8)))
def b_X9_keepDraft_60  (t9 : Int32 × Mm) : Option ((Int32 × Mm) ⊕ (Mm)) :=
  if (60 : Int32) ≤ t9.1 then (some (Sum.inr t9.2)) else ((ald t9.2 122 60 t9.1).bind fun x11 => (ast t9.2 117 60 t9.1 x11).bind fun m12 => some (Sum.inl (t9.1 + 1, m12)))
def b_X9_keepDraft_86  (t13 : Int32 × Mm) : Option ((Int32 × Mm) ⊕ (Mm)) :=
  if (12 : Int32) ≤ t13.1 then (some (Sum.inr t13.2)) else ((ald t13.2 123 12 t13.1).bind fun x15 => (ast t13.2 118 12 t13.1 x15).bind fun m16 => some (Sum.inl (t13.1 + 1, m16)))
def b_X9_keepDraft_112  (t17 : Int32 × Mm) : Option ((Int32 × Mm) ⊕ (Mm)) :=
  if (6 : Int32) ≤ t17.1 then (some (Sum.inr t17.2)) else ((ald t17.2 124 6 t17.1).bind fun x19 => (ast t17.2 119 6 t17.1 x19).bind fun m20 => some (Sum.inl (t17.1 + 1, m20)))
def b_X9_keepDraft_138  (t21 : Int32 × Mm) : Option ((Int32 × Mm) ⊕ (Mm)) :=
  if (5 : Int32) ≤ t21.1 then (some (Sum.inr t21.2)) else ((ald t21.2 125 5 t21.1).bind fun x23 => (ast t21.2 120 5 t21.1 x23).bind fun m24 => some (Sum.inl (t21.1 + 1, m24)))
def b_X9_keepDraft_163  (t25 : Int32 × Mm) : Option ((Int32 × Mm) ⊕ (Mm)) :=
  if (128 : Int32) ≤ t25.1 then (some (Sum.inr t25.2)) else ((ast t25.2 114 512 ((0 : Int32) + t25.1) 0).bind fun m27 => some (Sum.inl (t25.1 + 1, m27)))
def b_X9_keepDraft_187  (t28 : Int32 × Mm) : Option ((Int32 × Mm) ⊕ (Mm)) :=
  if (t28.2 113 2) ≤ t28.1 then (some (Sum.inr t28.2)) else ((ald t28.2 116 32 (((4 : Int32) * t28.1) + (3 : Int32))).bind fun x30 => (ast t28.2 114 512 ((0 : Int32) + t28.1) x30).bind fun m31 => some (Sum.inl (t28.1 + 1, m31)))
def b_X9_keepDraft_221  (t32 : Int32 × Mm) : Option ((Int32 × Mm) ⊕ (Mm)) :=
  if (t32.2 113 4) ≤ t32.1 then (some (Sum.inr t32.2)) else ((ald t32.2 117 60 (((6 : Int32) * t32.1) + (5 : Int32))).bind fun x34 => (ast t32.2 114 512 ((16 : Int32) + t32.1) x34).bind fun m35 => some (Sum.inl (t32.1 + 1, m35)))
def b_X9_keepDraft_257  (t36 : Int32 × Mm) : Option ((Int32 × Mm) ⊕ (Mm)) :=
  if (t36.2 113 8) ≤ t36.1 then (some (Sum.inr t36.2)) else ((ald t36.2 119 6 (((2 : Int32) * t36.1) + (1 : Int32))).bind fun x38 => (ast t36.2 114 512 ((44 : Int32) + t36.1) x38).bind fun m39 => some (Sum.inl (t36.1 + 1, m39)))
def f_X9_keepDraft (F : Nat) (m : Mm) : Option (Mm) :=
  letv (up2 m 113 2 (m 113 11)) fun m1 => letv (up2 m1 113 4 (m1 113 13)) fun m2 => letv (up2 m2 113 6 (m2 113 15)) fun m3 => letv (up2 m3 113 8 (m3 113 17)) fun m4 => (iter F b_X9_keepDraft_34 ((0, m4) : Int32 × Mm)).bind (fun e6 : Mm => (iter F b_X9_keepDraft_60 ((0, e6) : Int32 × Mm)).bind (fun e10 : Mm => (iter F b_X9_keepDraft_86 ((0, e10) : Int32 × Mm)).bind (fun e14 : Mm => (iter F b_X9_keepDraft_112 ((0, e14) : Int32 × Mm)).bind (fun e18 : Mm => (iter F b_X9_keepDraft_138 ((0, e18) : Int32 × Mm)).bind (fun e22 : Mm => (iter F b_X9_keepDraft_163 ((0, e22) : Int32 × Mm)).bind (fun e26 : Mm => (iter F b_X9_keepDraft_187 ((0, e26) : Int32 × Mm)).bind (fun e29 : Mm => (iter F b_X9_keepDraft_221 ((0, e29) : Int32 × Mm)).bind (fun e33 : Mm => (iter F b_X9_keepDraft_257 ((0, e33) : Int32 × Mm)).bind (fun e37 : Mm => (ast e37 114 512 73 (-4)).bind fun m40 => (ast m40 115 2 0 (vp_nar .boolean 0)).bind fun m41 => (ast m41 115 2 1 (vp_nar .boolean 0)).bind fun m42 => (f_X9_sees F m42 0).bind fun m44 => some m44)))))))))
set_option maxHeartbeats 4000000 in
set_option maxRecDepth 100000 in
theorem ct_X9_keepDraft (F : Nat) {n : Nat} (hn : 135 ≤ n) (P D : Nat) (T : Option Nat) (m : Mm)  : Ct yX9_keepDraft cX9_keepDraft 2 none 4 85 [.ref 113] n n m (RF P D T) (rV (RF P D T) (f_X9_keepDraft F m)) := by
  refine Ct.ofV (own := RX9) (nm := "keepDraft") [(0, .ref 113)] (by decide) (Nat.le_of_ble_eq_true rfl) rfl rfl rfl ?_
  unfold f_X9_keepDraft
  refine J_aload_n 0 0 113 dX9_keepDraft_0 rfl rfl ?_
  refine J_aload_n 0 0 113 dX9_keepDraft_1 rfl rfl ?_
  refine J_getI 113 9 11 dX9_keepDraft_2 fl_9_80 rfl rfl (Nat.lt_of_lt_of_le (Nat.le_of_ble_eq_true rfl) hn) ?_
  refine J_putI 113 9 2 dX9_keepDraft_5 fl_9_93 rfl rfl (Nat.lt_of_lt_of_le (Nat.le_of_ble_eq_true rfl) hn) rfl rfl rfl (fun m1 => ?_)
  refine J_aload_n 0 0 113 dX9_keepDraft_8 rfl rfl ?_
  refine J_aload_n 0 0 113 dX9_keepDraft_9 rfl rfl ?_
  refine J_getI 113 9 13 dX9_keepDraft_10 fl_9_84 rfl rfl (Nat.lt_of_lt_of_le (Nat.le_of_ble_eq_true rfl) hn) ?_
  refine J_putI 113 9 4 dX9_keepDraft_13 fl_9_96 rfl rfl (Nat.lt_of_lt_of_le (Nat.le_of_ble_eq_true rfl) hn) rfl rfl rfl (fun m2 => ?_)
  refine J_aload_n 0 0 113 dX9_keepDraft_16 rfl rfl ?_
  refine J_aload_n 0 0 113 dX9_keepDraft_17 rfl rfl ?_
  refine J_getI 113 9 15 dX9_keepDraft_18 fl_9_87 rfl rfl (Nat.lt_of_lt_of_le (Nat.le_of_ble_eq_true rfl) hn) ?_
  refine J_putI 113 9 6 dX9_keepDraft_21 fl_9_99 rfl rfl (Nat.lt_of_lt_of_le (Nat.le_of_ble_eq_true rfl) hn) rfl rfl rfl (fun m3 => ?_)
  refine J_aload_n 0 0 113 dX9_keepDraft_24 rfl rfl ?_
  refine J_aload_n 0 0 113 dX9_keepDraft_25 rfl rfl ?_
  refine J_getI 113 9 17 dX9_keepDraft_26 fl_9_90 rfl rfl (Nat.lt_of_lt_of_le (Nat.le_of_ble_eq_true rfl) hn) ?_
  refine J_putI 113 9 8 dX9_keepDraft_29 fl_9_102 rfl rfl (Nat.lt_of_lt_of_le (Nat.le_of_ble_eq_true rfl) hn) rfl rfl rfl (fun m4 => ?_)
  refine J_iconst 0 dX9_keepDraft_32 (by decide) ?_
  refine J_istore_n 1 [(1, .int 0), (0, .ref 113)] dX9_keepDraft_33 rfl (by decide) rfl ?_
  refine J_lv [1, 0] rfl ?_
  refine J_loop (pc := 34) (fun t5 : Int32 × Mm => [(0, .ref 113), (1, .int t5.1)]) (fun t5 => t5.2) (fun _ => 58) (fun e6 => [(0, .ref 113)]) (fun _ => []) (fun e6 => e6) ?_ (fun t5 k1 hBt5 hXt5 => ?_) F ((0, m4))
  · refine fun e6 => ?_
    refine J_iconst 0 dX9_keepDraft_58 (by decide) ?_
    refine J_istore_n 1 [(1, .int 0), (0, .ref 113)] dX9_keepDraft_59 rfl (by decide) rfl ?_
    refine J_lv [1, 0] rfl ?_
    refine J_loop (pc := 60) (fun t9 : Int32 × Mm => [(0, .ref 113), (1, .int t9.1)]) (fun t9 => t9.2) (fun _ => 84) (fun e10 => [(0, .ref 113)]) (fun _ => []) (fun e10 => e10) ?_ (fun t9 k1 hBt9 hXt9 => ?_) F ((0, e6))
    · refine fun e10 => ?_
      refine J_iconst 0 dX9_keepDraft_84 (by decide) ?_
      refine J_istore_n 1 [(1, .int 0), (0, .ref 113)] dX9_keepDraft_85 rfl (by decide) rfl ?_
      refine J_lv [1, 0] rfl ?_
      refine J_loop (pc := 86) (fun t13 : Int32 × Mm => [(0, .ref 113), (1, .int t13.1)]) (fun t13 => t13.2) (fun _ => 110) (fun e14 => [(0, .ref 113)]) (fun _ => []) (fun e14 => e14) ?_ (fun t13 k1 hBt13 hXt13 => ?_) F ((0, e10))
      · refine fun e14 => ?_
        refine J_iconst 0 dX9_keepDraft_110 (by decide) ?_
        refine J_istore_n 1 [(1, .int 0), (0, .ref 113)] dX9_keepDraft_111 rfl (by decide) rfl ?_
        refine J_lv [1, 0] rfl ?_
        refine J_loop (pc := 112) (fun t17 : Int32 × Mm => [(0, .ref 113), (1, .int t17.1)]) (fun t17 => t17.2) (fun _ => 136) (fun e18 => [(0, .ref 113)]) (fun _ => []) (fun e18 => e18) ?_ (fun t17 k1 hBt17 hXt17 => ?_) F ((0, e14))
        · refine fun e18 => ?_
          refine J_iconst 0 dX9_keepDraft_136 (by decide) ?_
          refine J_istore_n 1 [(1, .int 0), (0, .ref 113)] dX9_keepDraft_137 rfl (by decide) rfl ?_
          refine J_lv [1, 0] rfl ?_
          refine J_loop (pc := 138) (fun t21 : Int32 × Mm => [(0, .ref 113), (1, .int t21.1)]) (fun t21 => t21.2) (fun _ => 161) (fun e22 => [(0, .ref 113)]) (fun _ => []) (fun e22 => e22) ?_ (fun t21 k1 hBt21 hXt21 => ?_) F ((0, e18))
          · refine fun e22 => ?_
            refine J_iconst 0 dX9_keepDraft_161 (by decide) ?_
            refine J_istore_n 1 [(1, .int 0), (0, .ref 113)] dX9_keepDraft_162 rfl (by decide) rfl ?_
            refine J_lv [1, 0] rfl ?_
            refine J_loop (pc := 163) (fun t25 : Int32 × Mm => [(0, .ref 113), (1, .int t25.1)]) (fun t25 => t25.2) (fun _ => 185) (fun e26 => [(0, .ref 113)]) (fun _ => []) (fun e26 => e26) ?_ (fun t25 k1 hBt25 hXt25 => ?_) F ((0, e22))
            · refine fun e26 => ?_
              refine J_iconst 0 dX9_keepDraft_185 (by decide) ?_
              refine J_istore_n 1 [(1, .int 0), (0, .ref 113)] dX9_keepDraft_186 rfl (by decide) rfl ?_
              refine J_lv [1, 0] rfl ?_
              refine J_loop (pc := 187) (fun t28 : Int32 × Mm => [(0, .ref 113), (1, .int t28.1)]) (fun t28 => t28.2) (fun _ => 219) (fun e29 => [(0, .ref 113)]) (fun _ => []) (fun e29 => e29) ?_ (fun t28 k1 hBt28 hXt28 => ?_) F ((0, e26))
              · refine fun e29 => ?_
                refine J_iconst 0 dX9_keepDraft_219 (by decide) ?_
                refine J_istore_n 1 [(1, .int 0), (0, .ref 113)] dX9_keepDraft_220 rfl (by decide) rfl ?_
                refine J_lv [1, 0] rfl ?_
                refine J_loop (pc := 221) (fun t32 : Int32 × Mm => [(0, .ref 113), (1, .int t32.1)]) (fun t32 => t32.2) (fun _ => 255) (fun e33 => [(0, .ref 113)]) (fun _ => []) (fun e33 => e33) ?_ (fun t32 k1 hBt32 hXt32 => ?_) F ((0, e29))
                · refine fun e33 => ?_
                  refine J_iconst 0 dX9_keepDraft_255 (by decide) ?_
                  refine J_istore_n 1 [(1, .int 0), (0, .ref 113)] dX9_keepDraft_256 rfl (by decide) rfl ?_
                  refine J_lv [1, 0] rfl ?_
                  refine J_loop (pc := 257) (fun t36 : Int32 × Mm => [(0, .ref 113), (1, .int t36.1)]) (fun t36 => t36.2) (fun _ => 290) (fun e37 => [(0, .ref 113)]) (fun _ => []) (fun e37 => e37) ?_ (fun t36 k1 hBt36 hXt36 => ?_) F ((0, e33))
                  · refine fun e37 => ?_
                    refine J_aload_n 0 0 113 dX9_keepDraft_290 rfl rfl ?_
                    refine J_getR 113 9 0 114 dX9_keepDraft_291 fl_9_7 rfl rfl (Nat.lt_of_lt_of_le (Nat.le_of_ble_eq_true rfl) hn) rfl ?_
                    refine J_bipush 73 dX9_keepDraft_294 (by decide) ?_
                    refine J_bipush (-4) dX9_keepDraft_296 (by decide) ?_
                    refine J_iast 114 512 dX9_keepDraft_298 rfl (Nat.lt_of_lt_of_le (Nat.le_of_ble_eq_true rfl) hn) (fun m40 => ?_)
                    refine J_aload_n 0 0 113 dX9_keepDraft_299 rfl rfl ?_
                    refine J_getR 113 9 1 115 dX9_keepDraft_300 fl_9_13 rfl rfl (Nat.lt_of_lt_of_le (Nat.le_of_ble_eq_true rfl) hn) rfl ?_
                    refine J_iconst 0 dX9_keepDraft_303 (by decide) ?_
                    refine J_iconst 0 dX9_keepDraft_304 (by decide) ?_
                    refine J_zast 115 2 dX9_keepDraft_305 rfl (Nat.lt_of_lt_of_le (Nat.le_of_ble_eq_true rfl) hn) (fun m41 => ?_)
                    refine J_aload_n 0 0 113 dX9_keepDraft_306 rfl rfl ?_
                    refine J_getR 113 9 1 115 dX9_keepDraft_307 fl_9_13 rfl rfl (Nat.lt_of_lt_of_le (Nat.le_of_ble_eq_true rfl) hn) rfl ?_
                    refine J_iconst 1 dX9_keepDraft_310 (by decide) ?_
                    refine J_iconst 0 dX9_keepDraft_311 (by decide) ?_
                    refine J_zast 115 2 dX9_keepDraft_312 rfl (Nat.lt_of_lt_of_le (Nat.le_of_ble_eq_true rfl) hn) (fun m42 => ?_)
                    refine J_aload_n 0 0 113 dX9_keepDraft_313 rfl rfl ?_
                    refine J_iconst 0 dX9_keepDraft_314 (by decide) ?_
                    refine J_callVV 113 9 1 [.int 0] dX9_keepDraft_315 mv_X9_sees mv_X9_seesv lk_9_105 (ct_X9_sees F hn P D T m42 0) rfl rfl (by decide) rfl (Nat.lt_of_lt_of_le (Nat.le_of_ble_eq_true rfl) hn) ⟨by decide, by decide⟩ (Nat.le_of_ble_eq_true rfl) (fun m44 => ?_)
                    exact J_vretV dX9_keepDraft_318 rfl rfl
                  · unfold b_X9_keepDraft_257
                    refine J_iload_n 1 1 t36.1 dX9_keepDraft_257 rfl rfl ?_
                    refine J_aload_n 0 0 113 dX9_keepDraft_258 rfl rfl ?_
                    refine J_getI 113 9 8 dX9_keepDraft_259 fl_9_102 rfl rfl (Nat.lt_of_lt_of_le (Nat.le_of_ble_eq_true rfl) hn) ?_
                    refine J_icmp_ge 290 dX9_keepDraft_262 (by decide) ?_ ?_
                    · exact J_lv [0] rfl (hXt36 t36.2)
                    · refine J_aload_n 0 0 113 dX9_keepDraft_265 rfl rfl ?_
                      refine J_getR 113 9 0 114 dX9_keepDraft_266 fl_9_7 rfl rfl (Nat.lt_of_lt_of_le (Nat.le_of_ble_eq_true rfl) hn) rfl ?_
                      refine J_bipush 44 dX9_keepDraft_269 (by decide) ?_
                      refine J_iload_n 1 1 t36.1 dX9_keepDraft_271 rfl rfl ?_
                      refine J_iadd dX9_keepDraft_272 ?_
                      refine J_aload_n 0 0 113 dX9_keepDraft_273 rfl rfl ?_
                      refine J_getR 113 9 9 119 dX9_keepDraft_274 fl_9_26 rfl rfl (Nat.lt_of_lt_of_le (Nat.le_of_ble_eq_true rfl) hn) rfl ?_
                      refine J_iconst 2 dX9_keepDraft_277 (by decide) ?_
                      refine J_iload_n 1 1 t36.1 dX9_keepDraft_278 rfl rfl ?_
                      refine J_imul dX9_keepDraft_279 ?_
                      refine J_iconst 1 dX9_keepDraft_280 (by decide) ?_
                      refine J_iadd dX9_keepDraft_281 ?_
                      refine J_iald 119 6 dX9_keepDraft_282 rfl (Nat.lt_of_lt_of_le (Nat.le_of_ble_eq_true rfl) hn) (fun x38 => ?_)
                      refine J_iast 114 512 dX9_keepDraft_283 rfl (Nat.lt_of_lt_of_le (Nat.le_of_ble_eq_true rfl) hn) (fun m39 => ?_)
                      refine J_iinc 1 1 [(1, .int (t36.1 + 1)), (0, .ref 113)] t36.1 (t36.1 + 1) dX9_keepDraft_284 rfl rfl (by decide) rfl ?_
                      refine J_goto 257 dX9_keepDraft_287 (by decide) ?_
                      exact J_lv [1, 0] rfl (hBt36 (t36.1 + 1, m39))
                · unfold b_X9_keepDraft_221
                  refine J_iload_n 1 1 t32.1 dX9_keepDraft_221 rfl rfl ?_
                  refine J_aload_n 0 0 113 dX9_keepDraft_222 rfl rfl ?_
                  refine J_getI 113 9 4 dX9_keepDraft_223 fl_9_96 rfl rfl (Nat.lt_of_lt_of_le (Nat.le_of_ble_eq_true rfl) hn) ?_
                  refine J_icmp_ge 255 dX9_keepDraft_226 (by decide) ?_ ?_
                  · exact J_lv [0] rfl (hXt32 t32.2)
                  · refine J_aload_n 0 0 113 dX9_keepDraft_229 rfl rfl ?_
                    refine J_getR 113 9 0 114 dX9_keepDraft_230 fl_9_7 rfl rfl (Nat.lt_of_lt_of_le (Nat.le_of_ble_eq_true rfl) hn) rfl ?_
                    refine J_bipush 16 dX9_keepDraft_233 (by decide) ?_
                    refine J_iload_n 1 1 t32.1 dX9_keepDraft_235 rfl rfl ?_
                    refine J_iadd dX9_keepDraft_236 ?_
                    refine J_aload_n 0 0 113 dX9_keepDraft_237 rfl rfl ?_
                    refine J_getR 113 9 5 117 dX9_keepDraft_238 fl_9_20 rfl rfl (Nat.lt_of_lt_of_le (Nat.le_of_ble_eq_true rfl) hn) rfl ?_
                    refine J_bipush 6 dX9_keepDraft_241 (by decide) ?_
                    refine J_iload_n 1 1 t32.1 dX9_keepDraft_243 rfl rfl ?_
                    refine J_imul dX9_keepDraft_244 ?_
                    refine J_iconst 5 dX9_keepDraft_245 (by decide) ?_
                    refine J_iadd dX9_keepDraft_246 ?_
                    refine J_iald 117 60 dX9_keepDraft_247 rfl (Nat.lt_of_lt_of_le (Nat.le_of_ble_eq_true rfl) hn) (fun x34 => ?_)
                    refine J_iast 114 512 dX9_keepDraft_248 rfl (Nat.lt_of_lt_of_le (Nat.le_of_ble_eq_true rfl) hn) (fun m35 => ?_)
                    refine J_iinc 1 1 [(1, .int (t32.1 + 1)), (0, .ref 113)] t32.1 (t32.1 + 1) dX9_keepDraft_249 rfl rfl (by decide) rfl ?_
                    refine J_goto 221 dX9_keepDraft_252 (by decide) ?_
                    exact J_lv [1, 0] rfl (hBt32 (t32.1 + 1, m35))
              · unfold b_X9_keepDraft_187
                refine J_iload_n 1 1 t28.1 dX9_keepDraft_187 rfl rfl ?_
                refine J_aload_n 0 0 113 dX9_keepDraft_188 rfl rfl ?_
                refine J_getI 113 9 2 dX9_keepDraft_189 fl_9_93 rfl rfl (Nat.lt_of_lt_of_le (Nat.le_of_ble_eq_true rfl) hn) ?_
                refine J_icmp_ge 219 dX9_keepDraft_192 (by decide) ?_ ?_
                · exact J_lv [0] rfl (hXt28 t28.2)
                · refine J_aload_n 0 0 113 dX9_keepDraft_195 rfl rfl ?_
                  refine J_getR 113 9 0 114 dX9_keepDraft_196 fl_9_7 rfl rfl (Nat.lt_of_lt_of_le (Nat.le_of_ble_eq_true rfl) hn) rfl ?_
                  refine J_iconst 0 dX9_keepDraft_199 (by decide) ?_
                  refine J_iload_n 1 1 t28.1 dX9_keepDraft_200 rfl rfl ?_
                  refine J_iadd dX9_keepDraft_201 ?_
                  refine J_aload_n 0 0 113 dX9_keepDraft_202 rfl rfl ?_
                  refine J_getR 113 9 3 116 dX9_keepDraft_203 fl_9_17 rfl rfl (Nat.lt_of_lt_of_le (Nat.le_of_ble_eq_true rfl) hn) rfl ?_
                  refine J_iconst 4 dX9_keepDraft_206 (by decide) ?_
                  refine J_iload_n 1 1 t28.1 dX9_keepDraft_207 rfl rfl ?_
                  refine J_imul dX9_keepDraft_208 ?_
                  refine J_iconst 3 dX9_keepDraft_209 (by decide) ?_
                  refine J_iadd dX9_keepDraft_210 ?_
                  refine J_iald 116 32 dX9_keepDraft_211 rfl (Nat.lt_of_lt_of_le (Nat.le_of_ble_eq_true rfl) hn) (fun x30 => ?_)
                  refine J_iast 114 512 dX9_keepDraft_212 rfl (Nat.lt_of_lt_of_le (Nat.le_of_ble_eq_true rfl) hn) (fun m31 => ?_)
                  refine J_iinc 1 1 [(1, .int (t28.1 + 1)), (0, .ref 113)] t28.1 (t28.1 + 1) dX9_keepDraft_213 rfl rfl (by decide) rfl ?_
                  refine J_goto 187 dX9_keepDraft_216 (by decide) ?_
                  exact J_lv [1, 0] rfl (hBt28 (t28.1 + 1, m31))
            · unfold b_X9_keepDraft_163
              refine J_iload_n 1 1 t25.1 dX9_keepDraft_163 rfl rfl ?_
              refine J_sipush 128 dX9_keepDraft_164 (by decide) ?_
              refine J_icmp_ge 185 dX9_keepDraft_167 (by decide) ?_ ?_
              · exact J_lv [0] rfl (hXt25 t25.2)
              · refine J_aload_n 0 0 113 dX9_keepDraft_170 rfl rfl ?_
                refine J_getR 113 9 0 114 dX9_keepDraft_171 fl_9_7 rfl rfl (Nat.lt_of_lt_of_le (Nat.le_of_ble_eq_true rfl) hn) rfl ?_
                refine J_iconst 0 dX9_keepDraft_174 (by decide) ?_
                refine J_iload_n 1 1 t25.1 dX9_keepDraft_175 rfl rfl ?_
                refine J_iadd dX9_keepDraft_176 ?_
                refine J_iconst 0 dX9_keepDraft_177 (by decide) ?_
                refine J_iast 114 512 dX9_keepDraft_178 rfl (Nat.lt_of_lt_of_le (Nat.le_of_ble_eq_true rfl) hn) (fun m27 => ?_)
                refine J_iinc 1 1 [(1, .int (t25.1 + 1)), (0, .ref 113)] t25.1 (t25.1 + 1) dX9_keepDraft_179 rfl rfl (by decide) rfl ?_
                refine J_goto 163 dX9_keepDraft_182 (by decide) ?_
                exact J_lv [1, 0] rfl (hBt25 (t25.1 + 1, m27))
          · unfold b_X9_keepDraft_138
            refine J_iload_n 1 1 t21.1 dX9_keepDraft_138 rfl rfl ?_
            refine J_iconst 5 dX9_keepDraft_139 (by decide) ?_
            refine J_icmp_ge 161 dX9_keepDraft_140 (by decide) ?_ ?_
            · exact J_lv [0] rfl (hXt21 t21.2)
            · refine J_aload_n 0 0 113 dX9_keepDraft_143 rfl rfl ?_
              refine J_getR 113 9 10 120 dX9_keepDraft_144 fl_9_29 rfl rfl (Nat.lt_of_lt_of_le (Nat.le_of_ble_eq_true rfl) hn) rfl ?_
              refine J_iload_n 1 1 t21.1 dX9_keepDraft_147 rfl rfl ?_
              refine J_aload_n 0 0 113 dX9_keepDraft_148 rfl rfl ?_
              refine J_getR 113 9 19 125 dX9_keepDraft_149 fl_9_44 rfl rfl (Nat.lt_of_lt_of_le (Nat.le_of_ble_eq_true rfl) hn) rfl ?_
              refine J_iload_n 1 1 t21.1 dX9_keepDraft_152 rfl rfl ?_
              refine J_iald 125 5 dX9_keepDraft_153 rfl (Nat.lt_of_lt_of_le (Nat.le_of_ble_eq_true rfl) hn) (fun x23 => ?_)
              refine J_iast 120 5 dX9_keepDraft_154 rfl (Nat.lt_of_lt_of_le (Nat.le_of_ble_eq_true rfl) hn) (fun m24 => ?_)
              refine J_iinc 1 1 [(1, .int (t21.1 + 1)), (0, .ref 113)] t21.1 (t21.1 + 1) dX9_keepDraft_155 rfl rfl (by decide) rfl ?_
              refine J_goto 138 dX9_keepDraft_158 (by decide) ?_
              exact J_lv [1, 0] rfl (hBt21 (t21.1 + 1, m24))
        · unfold b_X9_keepDraft_112
          refine J_iload_n 1 1 t17.1 dX9_keepDraft_112 rfl rfl ?_
          refine J_bipush 6 dX9_keepDraft_113 (by decide) ?_
          refine J_icmp_ge 136 dX9_keepDraft_115 (by decide) ?_ ?_
          · exact J_lv [0] rfl (hXt17 t17.2)
          · refine J_aload_n 0 0 113 dX9_keepDraft_118 rfl rfl ?_
            refine J_getR 113 9 9 119 dX9_keepDraft_119 fl_9_26 rfl rfl (Nat.lt_of_lt_of_le (Nat.le_of_ble_eq_true rfl) hn) rfl ?_
            refine J_iload_n 1 1 t17.1 dX9_keepDraft_122 rfl rfl ?_
            refine J_aload_n 0 0 113 dX9_keepDraft_123 rfl rfl ?_
            refine J_getR 113 9 18 124 dX9_keepDraft_124 fl_9_41 rfl rfl (Nat.lt_of_lt_of_le (Nat.le_of_ble_eq_true rfl) hn) rfl ?_
            refine J_iload_n 1 1 t17.1 dX9_keepDraft_127 rfl rfl ?_
            refine J_iald 124 6 dX9_keepDraft_128 rfl (Nat.lt_of_lt_of_le (Nat.le_of_ble_eq_true rfl) hn) (fun x19 => ?_)
            refine J_iast 119 6 dX9_keepDraft_129 rfl (Nat.lt_of_lt_of_le (Nat.le_of_ble_eq_true rfl) hn) (fun m20 => ?_)
            refine J_iinc 1 1 [(1, .int (t17.1 + 1)), (0, .ref 113)] t17.1 (t17.1 + 1) dX9_keepDraft_130 rfl rfl (by decide) rfl ?_
            refine J_goto 112 dX9_keepDraft_133 (by decide) ?_
            exact J_lv [1, 0] rfl (hBt17 (t17.1 + 1, m20))
      · unfold b_X9_keepDraft_86
        refine J_iload_n 1 1 t13.1 dX9_keepDraft_86 rfl rfl ?_
        refine J_bipush 12 dX9_keepDraft_87 (by decide) ?_
        refine J_icmp_ge 110 dX9_keepDraft_89 (by decide) ?_ ?_
        · exact J_lv [0] rfl (hXt13 t13.2)
        · refine J_aload_n 0 0 113 dX9_keepDraft_92 rfl rfl ?_
          refine J_getR 113 9 7 118 dX9_keepDraft_93 fl_9_23 rfl rfl (Nat.lt_of_lt_of_le (Nat.le_of_ble_eq_true rfl) hn) rfl ?_
          refine J_iload_n 1 1 t13.1 dX9_keepDraft_96 rfl rfl ?_
          refine J_aload_n 0 0 113 dX9_keepDraft_97 rfl rfl ?_
          refine J_getR 113 9 16 123 dX9_keepDraft_98 fl_9_38 rfl rfl (Nat.lt_of_lt_of_le (Nat.le_of_ble_eq_true rfl) hn) rfl ?_
          refine J_iload_n 1 1 t13.1 dX9_keepDraft_101 rfl rfl ?_
          refine J_iald 123 12 dX9_keepDraft_102 rfl (Nat.lt_of_lt_of_le (Nat.le_of_ble_eq_true rfl) hn) (fun x15 => ?_)
          refine J_iast 118 12 dX9_keepDraft_103 rfl (Nat.lt_of_lt_of_le (Nat.le_of_ble_eq_true rfl) hn) (fun m16 => ?_)
          refine J_iinc 1 1 [(1, .int (t13.1 + 1)), (0, .ref 113)] t13.1 (t13.1 + 1) dX9_keepDraft_104 rfl rfl (by decide) rfl ?_
          refine J_goto 86 dX9_keepDraft_107 (by decide) ?_
          exact J_lv [1, 0] rfl (hBt13 (t13.1 + 1, m16))
    · unfold b_X9_keepDraft_60
      refine J_iload_n 1 1 t9.1 dX9_keepDraft_60 rfl rfl ?_
      refine J_bipush 60 dX9_keepDraft_61 (by decide) ?_
      refine J_icmp_ge 84 dX9_keepDraft_63 (by decide) ?_ ?_
      · exact J_lv [0] rfl (hXt9 t9.2)
      · refine J_aload_n 0 0 113 dX9_keepDraft_66 rfl rfl ?_
        refine J_getR 113 9 5 117 dX9_keepDraft_67 fl_9_20 rfl rfl (Nat.lt_of_lt_of_le (Nat.le_of_ble_eq_true rfl) hn) rfl ?_
        refine J_iload_n 1 1 t9.1 dX9_keepDraft_70 rfl rfl ?_
        refine J_aload_n 0 0 113 dX9_keepDraft_71 rfl rfl ?_
        refine J_getR 113 9 14 122 dX9_keepDraft_72 fl_9_35 rfl rfl (Nat.lt_of_lt_of_le (Nat.le_of_ble_eq_true rfl) hn) rfl ?_
        refine J_iload_n 1 1 t9.1 dX9_keepDraft_75 rfl rfl ?_
        refine J_iald 122 60 dX9_keepDraft_76 rfl (Nat.lt_of_lt_of_le (Nat.le_of_ble_eq_true rfl) hn) (fun x11 => ?_)
        refine J_iast 117 60 dX9_keepDraft_77 rfl (Nat.lt_of_lt_of_le (Nat.le_of_ble_eq_true rfl) hn) (fun m12 => ?_)
        refine J_iinc 1 1 [(1, .int (t9.1 + 1)), (0, .ref 113)] t9.1 (t9.1 + 1) dX9_keepDraft_78 rfl rfl (by decide) rfl ?_
        refine J_goto 60 dX9_keepDraft_81 (by decide) ?_
        exact J_lv [1, 0] rfl (hBt9 (t9.1 + 1, m12))
  · unfold b_X9_keepDraft_34
    refine J_iload_n 1 1 t5.1 dX9_keepDraft_34 rfl rfl ?_
    refine J_bipush 32 dX9_keepDraft_35 (by decide) ?_
    refine J_icmp_ge 58 dX9_keepDraft_37 (by decide) ?_ ?_
    · exact J_lv [0] rfl (hXt5 t5.2)
    · refine J_aload_n 0 0 113 dX9_keepDraft_40 rfl rfl ?_
      refine J_getR 113 9 3 116 dX9_keepDraft_41 fl_9_17 rfl rfl (Nat.lt_of_lt_of_le (Nat.le_of_ble_eq_true rfl) hn) rfl ?_
      refine J_iload_n 1 1 t5.1 dX9_keepDraft_44 rfl rfl ?_
      refine J_aload_n 0 0 113 dX9_keepDraft_45 rfl rfl ?_
      refine J_getR 113 9 12 121 dX9_keepDraft_46 fl_9_32 rfl rfl (Nat.lt_of_lt_of_le (Nat.le_of_ble_eq_true rfl) hn) rfl ?_
      refine J_iload_n 1 1 t5.1 dX9_keepDraft_49 rfl rfl ?_
      refine J_iald 121 32 dX9_keepDraft_50 rfl (Nat.lt_of_lt_of_le (Nat.le_of_ble_eq_true rfl) hn) (fun x7 => ?_)
      refine J_iast 116 32 dX9_keepDraft_51 rfl (Nat.lt_of_lt_of_le (Nat.le_of_ble_eq_true rfl) hn) (fun m8 => ?_)
      refine J_iinc 1 1 [(1, .int (t5.1 + 1)), (0, .ref 113)] t5.1 (t5.1 + 1) dX9_keepDraft_52 rfl rfl (by decide) rfl ?_
      refine J_goto 34 dX9_keepDraft_55 (by decide) ?_
      exact J_lv [1, 0] rfl (hBt5 (t5.1 + 1, m8))
def f_X9_isOrder (m : Mm) (a1 : Int64) (a3 : Int32) (a4 : Int32) (a5 : Int32) : Option (Int32) :=
  (ald m 114 512 71).bind fun x1 => (f_X9_in a1 x1.toInt64 999).bind fun x2 => if x2 = 0 then (some 0) else (if a3 = 0 then ((f_X9_isDoor m a4).bind fun x4 => bG x4) else (if a3 = 1 then ((f_X9_isDoor m a4).bind fun x6 => bG x6) else (if a3 = 2 then ((f_X9_in a4.toInt64 0 (((m 113 6) - (1 : Int32)).toInt64)).bind fun x8 => bG x8) else (if a3 = 3 then ((f_X9_in a4.toInt64 0 (((m 113 8) - (1 : Int32)).toInt64)).bind fun x10 => if x10 = 0 then (some 0) else (if a5 = ((-4) : Int32) then (some 1) else ((f_X9_isHold m a5).bind fun x12 => if x12 = 0 then (some 0) else (some 1)))) else (if a3 = 4 then ((f_X9_isHold m a4).bind fun x14 => if x14 = 0 then (some 0) else ((f_X9_in a5.toInt64 0 1).bind fun x16 => if x16 = 0 then (some 0) else (some 1))) else (some 0))))))
set_option maxHeartbeats 4000000 in
set_option maxRecDepth 100000 in
theorem ct_X9_isOrder (F : Nat) {n : Nat} (hn : 135 ≤ n) (P D : Nat) (T : Option Nat) (m : Mm) (a1 : Int64) (a3 : Int32) (a4 : Int32) (a5 : Int32) : Ct yX9_isOrder cX9_isOrder 6 (some .boolean) 2 46 [.ref 113, .long a1, .int a3, .int a4, .int a5] n n m (RF P D T) (rP m (RF P D T) (f_X9_isOrder m a1 a3 a4 a5)) := by
  refine Ct.ofP (own := RX9) (nm := "isOrder") [(0, .ref 113), (1, .long a1), (3, .int a3), (4, .int a4), (5, .int a5)] (by decide) (Nat.le_of_ble_eq_true rfl) rfl rfl rfl ?_
  unfold f_X9_isOrder
  refine J_lload_n 1 1 a1 dX9_isOrder_0 rfl rfl ?_
  refine J_aload_n 0 0 113 dX9_isOrder_1 rfl rfl ?_
  refine J_getR 113 9 0 114 dX9_isOrder_2 fl_9_7 rfl rfl (Nat.lt_of_lt_of_le (Nat.le_of_ble_eq_true rfl) hn) rfl ?_
  refine J_bipush 71 dX9_isOrder_5 (by decide) ?_
  refine J_iald 114 512 dX9_isOrder_7 rfl (Nat.lt_of_lt_of_le (Nat.le_of_ble_eq_true rfl) hn) (fun x1 => ?_)
  refine J_i2l dX9_isOrder_8 ?_
  refine J_ldc2 999 dX9_isOrder_9 kl_9_264 ?_
  refine J_callSP 3 [.long a1, .long x1.toInt64, .long 999] dX9_isOrder_12 mv_X9_in mv_X9_ins lk_9_114 (ct_X9_in F hn P D T m a1 x1.toInt64 999) rfl ⟨by decide, by decide⟩ (Nat.le_of_ble_eq_true rfl) (fun x2 => ?_)
  refine J_if_ne 20 dX9_isOrder_15 (by decide) ?_ ?_
  · refine J_iload_n 3 2 a3 dX9_isOrder_20 rfl rfl ?_
    refine J_split (c1 := 0) (fun hs21_0 => ?_) (fun hs21_0 => ?_)
    · refine J_tsIn 56 hs21_0 dX9_isOrder_21 (by decide) (by decide) rfl (by decide) ?_
      refine J_aload_n 0 0 113 dX9_isOrder_56 rfl rfl ?_
      refine J_iload 4 3 a4 dX9_isOrder_57 rfl ?_
      refine J_callVP 113 9 1 [.int a4] dX9_isOrder_59 mv_X9_isDoor mv_X9_isDoorv lk_9_226 (ct_X9_isDoor F hn P D T m a4) rfl rfl (by decide) rfl (Nat.lt_of_lt_of_le (Nat.le_of_ble_eq_true rfl) hn) ⟨by decide, by decide⟩ (Nat.le_of_ble_eq_true rfl) (fun x4 => ?_)
      exact J_bretP dX9_isOrder_62 rfl rfl
    · refine J_split (c1 := 1) (fun hs21_1 => ?_) (fun hs21_1 => ?_)
      · refine J_tsIn 56 hs21_1 dX9_isOrder_21 (by decide) (by decide) rfl (by decide) ?_
        refine J_aload_n 0 0 113 dX9_isOrder_56 rfl rfl ?_
        refine J_iload 4 3 a4 dX9_isOrder_57 rfl ?_
        refine J_callVP 113 9 1 [.int a4] dX9_isOrder_59 mv_X9_isDoor mv_X9_isDoorv lk_9_226 (ct_X9_isDoor F hn P D T m a4) rfl rfl (by decide) rfl (Nat.lt_of_lt_of_le (Nat.le_of_ble_eq_true rfl) hn) ⟨by decide, by decide⟩ (Nat.le_of_ble_eq_true rfl) (fun x6 => ?_)
        exact J_bretP dX9_isOrder_62 rfl rfl
      · refine J_split (c1 := 2) (fun hs21_2 => ?_) (fun hs21_2 => ?_)
        · refine J_tsIn 63 hs21_2 dX9_isOrder_21 (by decide) (by decide) rfl (by decide) ?_
          refine J_iload 4 3 a4 dX9_isOrder_63 rfl ?_
          refine J_i2l dX9_isOrder_65 ?_
          refine J_lconst 0 dX9_isOrder_66 (by decide) ?_
          refine J_aload_n 0 0 113 dX9_isOrder_67 rfl rfl ?_
          refine J_getI 113 9 6 dX9_isOrder_68 fl_9_99 rfl rfl (Nat.lt_of_lt_of_le (Nat.le_of_ble_eq_true rfl) hn) ?_
          refine J_iconst 1 dX9_isOrder_71 (by decide) ?_
          refine J_isub dX9_isOrder_72 ?_
          refine J_i2l dX9_isOrder_73 ?_
          refine J_callSP 3 [.long a4.toInt64, .long 0, .long (((m 113 6) - (1 : Int32)).toInt64)] dX9_isOrder_74 mv_X9_in mv_X9_ins lk_9_114 (ct_X9_in F hn P D T m a4.toInt64 0 (((m 113 6) - (1 : Int32)).toInt64)) rfl ⟨by decide, by decide⟩ (Nat.le_of_ble_eq_true rfl) (fun x8 => ?_)
          exact J_bretP dX9_isOrder_77 rfl rfl
        · refine J_split (c1 := 3) (fun hs21_3 => ?_) (fun hs21_3 => ?_)
          · refine J_tsIn 78 hs21_3 dX9_isOrder_21 (by decide) (by decide) rfl (by decide) ?_
            refine J_iload 4 3 a4 dX9_isOrder_78 rfl ?_
            refine J_i2l dX9_isOrder_80 ?_
            refine J_lconst 0 dX9_isOrder_81 (by decide) ?_
            refine J_aload_n 0 0 113 dX9_isOrder_82 rfl rfl ?_
            refine J_getI 113 9 8 dX9_isOrder_83 fl_9_102 rfl rfl (Nat.lt_of_lt_of_le (Nat.le_of_ble_eq_true rfl) hn) ?_
            refine J_iconst 1 dX9_isOrder_86 (by decide) ?_
            refine J_isub dX9_isOrder_87 ?_
            refine J_i2l dX9_isOrder_88 ?_
            refine J_callSP 3 [.long a4.toInt64, .long 0, .long (((m 113 8) - (1 : Int32)).toInt64)] dX9_isOrder_89 mv_X9_in mv_X9_ins lk_9_114 (ct_X9_in F hn P D T m a4.toInt64 0 (((m 113 8) - (1 : Int32)).toInt64)) rfl ⟨by decide, by decide⟩ (Nat.le_of_ble_eq_true rfl) (fun x10 => ?_)
            refine J_if_eq 115 dX9_isOrder_92 (by decide) ?_ ?_
            · refine J_iconst 0 dX9_isOrder_115 (by decide) ?_
              exact J_zretP dX9_isOrder_116 rfl rfl rfl
            · refine J_iload 5 4 a5 dX9_isOrder_95 rfl ?_
              refine J_bipush (-4) dX9_isOrder_97 (by decide) ?_
              refine J_icmp_eq 111 dX9_isOrder_99 (by decide) ?_ ?_
              · refine J_iconst 1 dX9_isOrder_111 (by decide) ?_
                refine J_goto 116 dX9_isOrder_112 (by decide) ?_
                exact J_zretP dX9_isOrder_116 rfl rfl rfl
              · refine J_aload_n 0 0 113 dX9_isOrder_102 rfl rfl ?_
                refine J_iload 5 4 a5 dX9_isOrder_103 rfl ?_
                refine J_callVP 113 9 1 [.int a5] dX9_isOrder_105 mv_X9_isHold mv_X9_isHoldv lk_9_220 (ct_X9_isHold F hn P D T m a5) rfl rfl (by decide) rfl (Nat.lt_of_lt_of_le (Nat.le_of_ble_eq_true rfl) hn) ⟨by decide, by decide⟩ (Nat.le_of_ble_eq_true rfl) (fun x12 => ?_)
                refine J_if_eq 115 dX9_isOrder_108 (by decide) ?_ ?_
                · refine J_iconst 0 dX9_isOrder_115 (by decide) ?_
                  exact J_zretP dX9_isOrder_116 rfl rfl rfl
                · refine J_iconst 1 dX9_isOrder_111 (by decide) ?_
                  refine J_goto 116 dX9_isOrder_112 (by decide) ?_
                  exact J_zretP dX9_isOrder_116 rfl rfl rfl
          · refine J_split (c1 := 4) (fun hs21_4 => ?_) (fun hs21_4 => ?_)
            · refine J_tsIn 117 hs21_4 dX9_isOrder_21 (by decide) (by decide) rfl (by decide) ?_
              refine J_aload_n 0 0 113 dX9_isOrder_117 rfl rfl ?_
              refine J_iload 4 3 a4 dX9_isOrder_118 rfl ?_
              refine J_callVP 113 9 1 [.int a4] dX9_isOrder_120 mv_X9_isHold mv_X9_isHoldv lk_9_220 (ct_X9_isHold F hn P D T m a4) rfl rfl (by decide) rfl (Nat.lt_of_lt_of_le (Nat.le_of_ble_eq_true rfl) hn) ⟨by decide, by decide⟩ (Nat.le_of_ble_eq_true rfl) (fun x14 => ?_)
              refine J_if_eq 141 dX9_isOrder_123 (by decide) ?_ ?_
              · refine J_iconst 0 dX9_isOrder_141 (by decide) ?_
                exact J_zretP dX9_isOrder_142 rfl rfl rfl
              · refine J_iload 5 4 a5 dX9_isOrder_126 rfl ?_
                refine J_i2l dX9_isOrder_128 ?_
                refine J_lconst 0 dX9_isOrder_129 (by decide) ?_
                refine J_lconst 1 dX9_isOrder_130 (by decide) ?_
                refine J_callSP 3 [.long a5.toInt64, .long 0, .long 1] dX9_isOrder_131 mv_X9_in mv_X9_ins lk_9_114 (ct_X9_in F hn P D T m a5.toInt64 0 1) rfl ⟨by decide, by decide⟩ (Nat.le_of_ble_eq_true rfl) (fun x16 => ?_)
                refine J_if_eq 141 dX9_isOrder_134 (by decide) ?_ ?_
                · refine J_iconst 0 dX9_isOrder_141 (by decide) ?_
                  exact J_zretP dX9_isOrder_142 rfl rfl rfl
                · refine J_iconst 1 dX9_isOrder_137 (by decide) ?_
                  refine J_goto 142 dX9_isOrder_138 (by decide) ?_
                  exact J_zretP dX9_isOrder_142 rfl rfl rfl
            · refine J_tsOut 143 dX9_isOrder_21 (ts_out [0, 1, 2, 3, 4] (by decide) (by simp only [List.mem_cons, List.not_mem_nil, or_false, forall_eq_or_imp, forall_eq]; exact ⟨hs21_0, hs21_1, hs21_2, hs21_3, hs21_4⟩)) (by decide) ?_
              refine J_iconst 0 dX9_isOrder_143 (by decide) ?_
              exact J_zretP dX9_isOrder_144 rfl rfl rfl
  · refine J_iconst 0 dX9_isOrder_18 (by decide) ?_
    exact J_zretP dX9_isOrder_19 rfl rfl rfl
def f_X9_isSheet (a0 : Int32) (a1 : Int32) : Option (Int32) :=
  (f_X9_in a0.toInt64 0 3).bind fun x1 => if x1 = 0 then (some 0) else ((f_X9_in a1.toInt64 0 2).bind fun x3 => if x3 = 0 then (some 0) else (some 1))
set_option maxHeartbeats 4000000 in
set_option maxRecDepth 100000 in
theorem ct_X9_isSheet (F : Nat) {n : Nat} (hn : 135 ≤ n) (P D : Nat) (T : Option Nat) (m : Mm) (a0 : Int32) (a1 : Int32) : Ct yX9_isSheet cX9_isSheet 2 (some .boolean) 1 25 [.int a0, .int a1] n n m (RF P D T) (rP m (RF P D T) (f_X9_isSheet a0 a1)) := by
  refine Ct.ofP (own := RX9) (nm := "isSheet") [(0, .int a0), (1, .int a1)] (by decide) (Nat.le_of_ble_eq_true rfl) rfl rfl rfl ?_
  unfold f_X9_isSheet
  refine J_iload_n 0 0 a0 dX9_isSheet_0 rfl rfl ?_
  refine J_i2l dX9_isSheet_1 ?_
  refine J_lconst 0 dX9_isSheet_2 (by decide) ?_
  refine J_ldc2 3 dX9_isSheet_3 kl_9_308 ?_
  refine J_callSP 3 [.long a0.toInt64, .long 0, .long 3] dX9_isSheet_6 mv_X9_in mv_X9_ins lk_9_114 (ct_X9_in F hn P D T m a0.toInt64 0 3) rfl ⟨by decide, by decide⟩ (Nat.le_of_ble_eq_true rfl) (fun x1 => ?_)
  refine J_if_eq 28 dX9_isSheet_9 (by decide) ?_ ?_
  · refine J_iconst 0 dX9_isSheet_28 (by decide) ?_
    exact J_zretP dX9_isSheet_29 rfl rfl rfl
  · refine J_iload_n 1 1 a1 dX9_isSheet_12 rfl rfl ?_
    refine J_i2l dX9_isSheet_13 ?_
    refine J_lconst 0 dX9_isSheet_14 (by decide) ?_
    refine J_ldc2 2 dX9_isSheet_15 kl_9_334 ?_
    refine J_callSP 3 [.long a1.toInt64, .long 0, .long 2] dX9_isSheet_18 mv_X9_in mv_X9_ins lk_9_114 (ct_X9_in F hn P D T m a1.toInt64 0 2) rfl ⟨by decide, by decide⟩ (Nat.le_of_ble_eq_true rfl) (fun x3 => ?_)
    refine J_if_eq 28 dX9_isSheet_21 (by decide) ?_ ?_
    · refine J_iconst 0 dX9_isSheet_28 (by decide) ?_
      exact J_zretP dX9_isSheet_29 rfl rfl rfl
    · refine J_iconst 1 dX9_isSheet_24 (by decide) ?_
      refine J_goto 29 dX9_isSheet_25 (by decide) ?_
      exact J_zretP dX9_isSheet_29 rfl rfl rfl
def f_X9_keep (F : Nat) (m : Mm) (a1 : Int32) : Option (Int32 × Mm) :=
  (f_X9_in a1.toInt64 0 1).bind fun x1 => if x1 = 0 then (some ((-1), m)) else ((ald m 115 2 a1).bind fun x3 => (f_X9_flag x3).bind fun x4 => (ast m 115 2 a1 (vp_nar .boolean 1)).bind fun m6 => (f_X9_copies F m6 ((128 : Int32) + ((128 : Int32) * a1)) 0).bind fun m8 => some (x4, m8))
set_option maxHeartbeats 4000000 in
set_option maxRecDepth 100000 in
theorem ct_X9_keep (F : Nat) {n : Nat} (hn : 135 ≤ n) (P D : Nat) (T : Option Nat) (m : Mm) (a1 : Int32) : Ct yX9_keep cX9_keep 3 (some .int) 1 25 [.ref 113, .int a1] n n m (RF P D T) (rI (RF P D T) (f_X9_keep F m a1)) := by
  refine Ct.ofI (own := RX9) (nm := "keep") [(0, .ref 113), (1, .int a1)] (by decide) (Nat.le_of_ble_eq_true rfl) rfl rfl rfl ?_
  unfold f_X9_keep
  refine J_iload_n 1 1 a1 dX9_keep_0 rfl rfl ?_
  refine J_i2l dX9_keep_1 ?_
  refine J_lconst 0 dX9_keep_2 (by decide) ?_
  refine J_lconst 1 dX9_keep_3 (by decide) ?_
  refine J_callSP 3 [.long a1.toInt64, .long 0, .long 1] dX9_keep_4 mv_X9_in mv_X9_ins lk_9_114 (ct_X9_in F hn P D T m a1.toInt64 0 1) rfl ⟨by decide, by decide⟩ (Nat.le_of_ble_eq_true rfl) (fun x1 => ?_)
  refine J_if_ne 12 dX9_keep_7 (by decide) ?_ ?_
  · refine J_aload_n 0 0 113 dX9_keep_12 rfl rfl ?_
    refine J_getR 113 9 1 115 dX9_keep_13 fl_9_13 rfl rfl (Nat.lt_of_lt_of_le (Nat.le_of_ble_eq_true rfl) hn) rfl ?_
    refine J_iload_n 1 1 a1 dX9_keep_16 rfl rfl ?_
    refine J_zald 115 2 dX9_keep_17 rfl (Nat.lt_of_lt_of_le (Nat.le_of_ble_eq_true rfl) hn) (fun x3 => ?_)
    refine J_callSP 1 [.int x3] dX9_keep_18 mv_X9_flag mv_X9_flags lk_9_174 (ct_X9_flag F hn P D T m x3) rfl ⟨by decide, by decide⟩ (Nat.le_of_ble_eq_true rfl) (fun x4 => ?_)
    refine J_istore_n 2 [(2, .int x4), (0, .ref 113), (1, .int a1)] dX9_keep_21 rfl (by decide) rfl ?_
    refine J_aload_n 0 1 113 dX9_keep_22 rfl rfl ?_
    refine J_getR 113 9 1 115 dX9_keep_23 fl_9_13 rfl rfl (Nat.lt_of_lt_of_le (Nat.le_of_ble_eq_true rfl) hn) rfl ?_
    refine J_iload_n 1 2 a1 dX9_keep_26 rfl rfl ?_
    refine J_iconst 1 dX9_keep_27 (by decide) ?_
    refine J_zast 115 2 dX9_keep_28 rfl (Nat.lt_of_lt_of_le (Nat.le_of_ble_eq_true rfl) hn) (fun m6 => ?_)
    refine J_aload_n 0 1 113 dX9_keep_29 rfl rfl ?_
    refine J_sipush 128 dX9_keep_30 (by decide) ?_
    refine J_sipush 128 dX9_keep_33 (by decide) ?_
    refine J_iload_n 1 2 a1 dX9_keep_36 rfl rfl ?_
    refine J_imul dX9_keep_37 ?_
    refine J_iadd dX9_keep_38 ?_
    refine J_iconst 0 dX9_keep_39 (by decide) ?_
    refine J_callVV 113 9 2 [.int ((128 : Int32) + ((128 : Int32) * a1)), .int 0] dX9_keep_40 mv_X9_copies mv_X9_copiesv lk_9_261 (ct_X9_copies F hn P D T m6 ((128 : Int32) + ((128 : Int32) * a1)) 0) rfl rfl (by decide) rfl (Nat.lt_of_lt_of_le (Nat.le_of_ble_eq_true rfl) hn) ⟨by decide, by decide⟩ (Nat.le_of_ble_eq_true rfl) (fun m8 => ?_)
    refine J_iload_n 2 0 x4 dX9_keep_43 rfl rfl ?_
    exact J_iretI dX9_keep_44 rfl rfl
  · refine J_iconst (-1) dX9_keep_10 (by decide) ?_
    exact J_iretI dX9_keep_11 rfl rfl
def b_X9_latest_35 (F : Nat) (a1 : Int32) (a2 : Int32) (t7 : Int32 × Mm) : Option ((Int32 × Mm) ⊕ (Int32 × Mm)) :=
  if t7.1 < 0 then (some (Sum.inr ((t7.1, t7.2)))) else (bind2 (f_X9_untilWith F t7.2 a1 t7.1 a2) fun x9 m10 => if x9 = ((-4) : Int32) then (some (Sum.inr ((t7.1, m10)))) else (some (Sum.inl (t7.1 + (-1), m10))))
def f_X9_latest (F : Nat) (m : Mm) (a1 : Int32) (a2 : Int32) : Option (Int32 × Mm) :=
  (f_X9_isDoor m a1).bind fun x1 => if x1 = 0 then (some ((-1), m)) else ((f_X9_in a2.toInt64 1 60).bind fun x3 => if x3 = 0 then (some ((-1), m)) else ((f_X9_canShut m a1).bind fun x5 => if x5 = 0 then (some ((-2), m)) else ((iter F (b_X9_latest_35 F a1 a2) ((a2, m) : Int32 × Mm)).bind (fun e8 : Int32 × Mm => if 0 ≤ e8.1 then (some (e8.1, e8.2)) else (some ((-4), e8.2))))))
set_option maxHeartbeats 4000000 in
set_option maxRecDepth 100000 in
theorem ct_X9_latest (F : Nat) {n : Nat} (hn : 135 ≤ n) (P D : Nat) (T : Option Nat) (m : Mm) (a1 : Int32) (a2 : Int32) : Ct yX9_latest cX9_latest 4 (some .int) 7 151 [.ref 113, .int a1, .int a2] n n m (RF P D T) (rI (RF P D T) (f_X9_latest F m a1 a2)) := by
  refine Ct.ofI (own := RX9) (nm := "latest") [(0, .ref 113), (1, .int a1), (2, .int a2)] (by decide) (Nat.le_of_ble_eq_true rfl) rfl rfl rfl ?_
  unfold f_X9_latest
  refine J_aload_n 0 0 113 dX9_latest_0 rfl rfl ?_
  refine J_iload_n 1 1 a1 dX9_latest_1 rfl rfl ?_
  refine J_callVP 113 9 1 [.int a1] dX9_latest_2 mv_X9_isDoor mv_X9_isDoorv lk_9_226 (ct_X9_isDoor F hn P D T m a1) rfl rfl (by decide) rfl (Nat.lt_of_lt_of_le (Nat.le_of_ble_eq_true rfl) hn) ⟨by decide, by decide⟩ (Nat.le_of_ble_eq_true rfl) (fun x1 => ?_)
  refine J_if_eq 20 dX9_latest_5 (by decide) ?_ ?_
  · refine J_iconst (-1) dX9_latest_20 (by decide) ?_
    exact J_iretI dX9_latest_21 rfl rfl
  · refine J_iload_n 2 2 a2 dX9_latest_8 rfl rfl ?_
    refine J_i2l dX9_latest_9 ?_
    refine J_lconst 1 dX9_latest_10 (by decide) ?_
    refine J_ldc2 60 dX9_latest_11 kl_9_310 ?_
    refine J_callSP 3 [.long a2.toInt64, .long 1, .long 60] dX9_latest_14 mv_X9_in mv_X9_ins lk_9_114 (ct_X9_in F hn P D T m a2.toInt64 1 60) rfl ⟨by decide, by decide⟩ (Nat.le_of_ble_eq_true rfl) (fun x3 => ?_)
    refine J_if_ne 22 dX9_latest_17 (by decide) ?_ ?_
    · refine J_aload_n 0 0 113 dX9_latest_22 rfl rfl ?_
      refine J_iload_n 1 1 a1 dX9_latest_23 rfl rfl ?_
      refine J_callVP 113 9 1 [.int a1] dX9_latest_24 mv_X9_canShut mv_X9_canShutv lk_9_318 (ct_X9_canShut F hn P D T m a1) rfl rfl (by decide) rfl (Nat.lt_of_lt_of_le (Nat.le_of_ble_eq_true rfl) hn) ⟨by decide, by decide⟩ (Nat.le_of_ble_eq_true rfl) (fun x5 => ?_)
      refine J_if_ne 33 dX9_latest_27 (by decide) ?_ ?_
      · refine J_iload_n 2 2 a2 dX9_latest_33 rfl rfl ?_
        refine J_istore_n 3 [(3, .int a2), (0, .ref 113), (1, .int a1), (2, .int a2)] dX9_latest_34 rfl (by decide) rfl ?_
        refine J_lv [1, 2, 3, 0] rfl ?_
        refine J_loop (pc := 35) (fun t7 : Int32 × Mm => [(0, .ref 113), (1, .int a1), (2, .int a2), (3, .int t7.1)]) (fun t7 => t7.2) (fun _ => 57) (fun e8 => [(3, .int e8.1)]) (fun _ => []) (fun e8 => e8.2) ?_ (fun t7 k1 hBt7 hXt7 => ?_) F ((a2, m))
        · refine fun e8 => ?_
          refine J_iload_n 3 0 e8.1 dX9_latest_57 rfl rfl ?_
          refine J_if_ge 66 dX9_latest_58 (by decide) ?_ ?_
          · refine J_iload_n 3 0 e8.1 dX9_latest_66 rfl rfl ?_
            exact J_iretI dX9_latest_67 rfl rfl
          · refine J_bipush (-4) dX9_latest_61 (by decide) ?_
            refine J_goto 67 dX9_latest_63 (by decide) ?_
            exact J_iretI dX9_latest_67 rfl rfl
        · unfold b_X9_latest_35
          refine J_iload_n 3 3 t7.1 dX9_latest_35 rfl rfl ?_
          refine J_if_lt 57 dX9_latest_36 (by decide) ?_ ?_
          · exact J_lv [3] rfl (hXt7 ((t7.1, t7.2)))
          · refine J_aload_n 0 0 113 dX9_latest_39 rfl rfl ?_
            refine J_iload_n 1 1 a1 dX9_latest_40 rfl rfl ?_
            refine J_iload_n 3 3 t7.1 dX9_latest_41 rfl rfl ?_
            refine J_iload_n 2 2 a2 dX9_latest_42 rfl rfl ?_
            refine J_callVI 113 9 3 [.int a1, .int t7.1, .int a2] dX9_latest_43 mv_X9_untilWith mv_X9_untilWithv lk_9_321 (ct_X9_untilWith F hn P D T t7.2 a1 t7.1 a2) rfl rfl (by decide) rfl (Nat.lt_of_lt_of_le (Nat.le_of_ble_eq_true rfl) hn) ⟨by decide, by decide⟩ (Nat.le_of_ble_eq_true rfl) (fun x9 m10 => ?_)
            refine J_bipush (-4) dX9_latest_46 (by decide) ?_
            refine J_icmp_eq 57 dX9_latest_48 (by decide) ?_ ?_
            · exact J_lv [3] rfl (hXt7 ((t7.1, m10)))
            · refine J_iinc 3 3 [(3, .int (t7.1 + (-1))), (0, .ref 113), (1, .int a1), (2, .int a2)] t7.1 (t7.1 + (-1)) dX9_latest_51 rfl rfl (by decide) rfl ?_
              refine J_goto 35 dX9_latest_54 (by decide) ?_
              exact J_lv [1, 2, 3, 0] rfl (hBt7 (t7.1 + (-1), m10))
      · refine J_bipush (-2) dX9_latest_30 (by decide) ?_
        exact J_iretI dX9_latest_32 rfl rfl
    · refine J_iconst (-1) dX9_latest_20 (by decide) ?_
      exact J_iretI dX9_latest_21 rfl rfl

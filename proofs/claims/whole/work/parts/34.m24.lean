theorem kl_9_182 : Cond.constantLong RX9 182 13 ∈ TBg := tb 1195 (by decide +kernel) rfl
theorem kl_9_348 : Cond.constantLong RX9 348 99 ∈ TBg := tb 1477 (by decide +kernel) rfl
theorem lk_9_184 : Cond.methodLink RX9 184 yX9_aHold ∈ TBg := tb 1196 (by decide +kernel) rfl
theorem lk_9_187 : Cond.methodLink RX9 187 yX9_aDoor ∈ TBg := tb 1208 (by decide +kernel) rfl
theorem lk_9_190 : Cond.methodLink RX9 190 yX9_aHole ∈ TBg := tb 1219 (by decide +kernel) rfl
theorem lk_9_193 : Cond.methodLink RX9 193 yX9_aPump ∈ TBg := tb 1223 (by decide +kernel) rfl
theorem mv_X9_aDoor : MV yX9_aDoor cX9_aDoor 8 none 0 := ⟨tb 1211 (by decide +kernel) rfl, tb 13 (by decide +kernel) rfl, by decide +kernel⟩
theorem mv_X9_aDoorv : Cond.instanceMethod yX9_aDoor ∈ TBg ∧ Cond.selects yX9_aDoor.cls yX9_aDoor yX9_aDoor ∈ TBg := ⟨tb 1210 (by decide +kernel) rfl, tbP (k := 42) 59 (by decide +kernel) rfl⟩
theorem mv_X9_aHold : MV yX9_aHold cX9_aHold 6 none 0 := ⟨tb 1199 (by decide +kernel) rfl, tb 13 (by decide +kernel) rfl, by decide +kernel⟩
theorem mv_X9_aHoldv : Cond.instanceMethod yX9_aHold ∈ TBg ∧ Cond.selects yX9_aHold.cls yX9_aHold yX9_aHold ∈ TBg := ⟨tb 1198 (by decide +kernel) rfl, tbP (k := 42) 56 (by decide +kernel) rfl⟩
theorem mv_X9_aHole : MV yX9_aHole cX9_aHole 4 none 0 := ⟨tb 1222 (by decide +kernel) rfl, tb 13 (by decide +kernel) rfl, by decide +kernel⟩
theorem mv_X9_aHolev : Cond.instanceMethod yX9_aHole ∈ TBg ∧ Cond.selects yX9_aHole.cls yX9_aHole yX9_aHole ∈ TBg := ⟨tb 1221 (by decide +kernel) rfl, tbP (k := 42) 61 (by decide +kernel) rfl⟩
theorem mv_X9_aPump : MV yX9_aPump cX9_aPump 3 none 0 := ⟨tb 1226 (by decide +kernel) rfl, tb 13 (by decide +kernel) rfl, by decide +kernel⟩
theorem mv_X9_aPumpv : Cond.instanceMethod yX9_aPump ∈ TBg ∧ Cond.selects yX9_aPump.cls yX9_aPump yX9_aPump ∈ TBg := ⟨tb 1225 (by decide +kernel) rfl, tbP (k := 42) 62 (by decide +kernel) rfl⟩
theorem dX9_readLine_0 : decode cX9_readLine 0 = .ok (.aload_n 0, 1) := by decide +kernel
theorem dX9_readLine_1 : decode cX9_readLine 1 = .ok (.getfield 138, 3) := by decide +kernel
theorem dX9_readLine_4 : decode cX9_readLine 4 = .ok (.iconst 1, 1) := by decide +kernel
theorem dX9_readLine_5 : decode cX9_readLine 5 = .ok (.if_icmp .ne 10, 3) := by decide +kernel
theorem dX9_readLine_8 : decode cX9_readLine 8 = .ok (.aload_n 0, 1) := by decide +kernel
theorem dX9_readLine_9 : decode cX9_readLine 9 = .ok (.invokevirtual 171, 3) := by decide +kernel
theorem dX9_readLine_12 : decode cX9_readLine 12 = .ok (.goto 5, 3) := by decide +kernel
theorem dX9_readLine_15 : decode cX9_readLine 15 = .ok (.bipush (-4), 2) := by decide +kernel
theorem dX9_readLine_17 : decode cX9_readLine 17 = .ok (.istore_n 1, 1) := by decide +kernel
theorem dX9_readLine_18 : decode cX9_readLine 18 = .ok (.aload_n 0, 1) := by decide +kernel
theorem dX9_readLine_19 : decode cX9_readLine 19 = .ok (.iload_n 1, 1) := by decide +kernel
theorem dX9_readLine_20 : decode cX9_readLine 20 = .ok (.i2l, 1) := by decide +kernel
theorem dX9_readLine_21 : decode cX9_readLine 21 = .ok (.lconst 0, 1) := by decide +kernel
theorem dX9_readLine_22 : decode cX9_readLine 22 = .ok (.ldc2_w 178, 3) := by decide +kernel
theorem dX9_readLine_25 : decode cX9_readLine 25 = .ok (.invokestatic 114, 3) := by decide +kernel
theorem dX9_readLine_28 : decode cX9_readLine 28 = .ok (.ifCond .ne 17, 3) := by decide +kernel
theorem dX9_readLine_31 : decode cX9_readLine 31 = .ok (.iload_n 1, 1) := by decide +kernel
theorem dX9_readLine_32 : decode cX9_readLine 32 = .ok (.i2l, 1) := by decide +kernel
theorem dX9_readLine_33 : decode cX9_readLine 33 = .ok (.ldc2_w 180, 3) := by decide +kernel
theorem dX9_readLine_36 : decode cX9_readLine 36 = .ok (.ldc2_w 182, 3) := by decide +kernel
theorem dX9_readLine_39 : decode cX9_readLine 39 = .ok (.invokestatic 114, 3) := by decide +kernel
theorem dX9_readLine_42 : decode cX9_readLine 42 = .ok (.ifCond .eq 7, 3) := by decide +kernel
theorem dX9_readLine_45 : decode cX9_readLine 45 = .ok (.iconst 1, 1) := by decide +kernel
theorem dX9_readLine_46 : decode cX9_readLine 46 = .ok (.goto 4, 3) := by decide +kernel
theorem dX9_readLine_49 : decode cX9_readLine 49 = .ok (.iconst 0, 1) := by decide +kernel
theorem dX9_readLine_50 : decode cX9_readLine 50 = .ok (.iconst 2, 1) := by decide +kernel
theorem dX9_readLine_51 : decode cX9_readLine 51 = .ok (.invokevirtual 152, 3) := by decide +kernel
theorem dX9_readLine_54 : decode cX9_readLine 54 = .ok (.aload_n 0, 1) := by decide +kernel
theorem dX9_readLine_55 : decode cX9_readLine 55 = .ok (.iload_n 1, 1) := by decide +kernel
theorem dX9_readLine_56 : decode cX9_readLine 56 = .ok (.bipush 10, 2) := by decide +kernel
theorem dX9_readLine_58 : decode cX9_readLine 58 = .ok (.if_icmp .ne 12, 3) := by decide +kernel
theorem dX9_readLine_61 : decode cX9_readLine 61 = .ok (.aload_n 0, 1) := by decide +kernel
theorem dX9_readLine_62 : decode cX9_readLine 62 = .ok (.getfield 80, 3) := by decide +kernel
theorem dX9_readLine_65 : decode cX9_readLine 65 = .ok (.bipush 8, 2) := by decide +kernel
theorem dX9_readLine_67 : decode cX9_readLine 67 = .ok (.if_icmp .ge 7, 3) := by decide +kernel
theorem dX9_readLine_70 : decode cX9_readLine 70 = .ok (.iconst 1, 1) := by decide +kernel
theorem dX9_readLine_71 : decode cX9_readLine 71 = .ok (.goto 4, 3) := by decide +kernel
theorem dX9_readLine_74 : decode cX9_readLine 74 = .ok (.iconst 0, 1) := by decide +kernel
theorem dX9_readLine_75 : decode cX9_readLine 75 = .ok (.iconst 5, 1) := by decide +kernel
theorem dX9_readLine_76 : decode cX9_readLine 76 = .ok (.invokevirtual 152, 3) := by decide +kernel
theorem dX9_readLine_79 : decode cX9_readLine 79 = .ok (.aload_n 0, 1) := by decide +kernel
theorem dX9_readLine_80 : decode cX9_readLine 80 = .ok (.iload_n 1, 1) := by decide +kernel
theorem dX9_readLine_81 : decode cX9_readLine 81 = .ok (.bipush 11, 2) := by decide +kernel
theorem dX9_readLine_83 : decode cX9_readLine 83 = .ok (.if_icmp .ne 12, 3) := by decide +kernel
theorem dX9_readLine_86 : decode cX9_readLine 86 = .ok (.aload_n 0, 1) := by decide +kernel
theorem dX9_readLine_87 : decode cX9_readLine 87 = .ok (.getfield 84, 3) := by decide +kernel
theorem dX9_readLine_90 : decode cX9_readLine 90 = .ok (.bipush 10, 2) := by decide +kernel
theorem dX9_readLine_92 : decode cX9_readLine 92 = .ok (.if_icmp .ge 7, 3) := by decide +kernel
theorem dX9_readLine_95 : decode cX9_readLine 95 = .ok (.iconst 1, 1) := by decide +kernel
theorem dX9_readLine_96 : decode cX9_readLine 96 = .ok (.goto 4, 3) := by decide +kernel
theorem dX9_readLine_99 : decode cX9_readLine 99 = .ok (.iconst 0, 1) := by decide +kernel
theorem dX9_readLine_100 : decode cX9_readLine 100 = .ok (.iconst 5, 1) := by decide +kernel
theorem dX9_readLine_101 : decode cX9_readLine 101 = .ok (.invokevirtual 152, 3) := by decide +kernel
theorem dX9_readLine_104 : decode cX9_readLine 104 = .ok (.aload_n 0, 1) := by decide +kernel
theorem dX9_readLine_105 : decode cX9_readLine 105 = .ok (.iload_n 1, 1) := by decide +kernel
theorem dX9_readLine_106 : decode cX9_readLine 106 = .ok (.bipush 12, 2) := by decide +kernel
theorem dX9_readLine_108 : decode cX9_readLine 108 = .ok (.if_icmp .ne 11, 3) := by decide +kernel
theorem dX9_readLine_111 : decode cX9_readLine 111 = .ok (.aload_n 0, 1) := by decide +kernel
theorem dX9_readLine_112 : decode cX9_readLine 112 = .ok (.getfield 87, 3) := by decide +kernel
theorem dX9_readLine_115 : decode cX9_readLine 115 = .ok (.iconst 4, 1) := by decide +kernel
theorem dX9_readLine_116 : decode cX9_readLine 116 = .ok (.if_icmp .ge 7, 3) := by decide +kernel
theorem dX9_readLine_119 : decode cX9_readLine 119 = .ok (.iconst 1, 1) := by decide +kernel
theorem dX9_readLine_120 : decode cX9_readLine 120 = .ok (.goto 4, 3) := by decide +kernel
theorem dX9_readLine_123 : decode cX9_readLine 123 = .ok (.iconst 0, 1) := by decide +kernel
theorem dX9_readLine_124 : decode cX9_readLine 124 = .ok (.iconst 5, 1) := by decide +kernel
theorem dX9_readLine_125 : decode cX9_readLine 125 = .ok (.invokevirtual 152, 3) := by decide +kernel
theorem dX9_readLine_128 : decode cX9_readLine 128 = .ok (.aload_n 0, 1) := by decide +kernel
theorem dX9_readLine_129 : decode cX9_readLine 129 = .ok (.iload_n 1, 1) := by decide +kernel
theorem dX9_readLine_130 : decode cX9_readLine 130 = .ok (.bipush 13, 2) := by decide +kernel
theorem dX9_readLine_132 : decode cX9_readLine 132 = .ok (.if_icmp .ne 11, 3) := by decide +kernel
theorem dX9_readLine_135 : decode cX9_readLine 135 = .ok (.aload_n 0, 1) := by decide +kernel
theorem dX9_readLine_136 : decode cX9_readLine 136 = .ok (.getfield 90, 3) := by decide +kernel
theorem dX9_readLine_139 : decode cX9_readLine 139 = .ok (.iconst 3, 1) := by decide +kernel
theorem dX9_readLine_140 : decode cX9_readLine 140 = .ok (.if_icmp .ge 7, 3) := by decide +kernel
theorem dX9_readLine_143 : decode cX9_readLine 143 = .ok (.iconst 1, 1) := by decide +kernel
theorem dX9_readLine_144 : decode cX9_readLine 144 = .ok (.goto 4, 3) := by decide +kernel
theorem dX9_readLine_147 : decode cX9_readLine 147 = .ok (.iconst 0, 1) := by decide +kernel
theorem dX9_readLine_148 : decode cX9_readLine 148 = .ok (.iconst 5, 1) := by decide +kernel
theorem dX9_readLine_149 : decode cX9_readLine 149 = .ok (.invokevirtual 152, 3) := by decide +kernel
theorem dX9_readLine_152 : decode cX9_readLine 152 = .ok (.aload_n 0, 1) := by decide +kernel
theorem dX9_readLine_153 : decode cX9_readLine 153 = .ok (.getfield 118, 3) := by decide +kernel
theorem dX9_readLine_156 : decode cX9_readLine 156 = .ok (.ifCond .ne 34, 3) := by decide +kernel
theorem dX9_readLine_159 : decode cX9_readLine 159 = .ok (.iload_n 1, 1) := by decide +kernel
theorem dX9_readLine_160 : decode cX9_readLine 160 = .ok (.iconst 4, 1) := by decide +kernel
theorem dX9_readLine_161 : decode cX9_readLine 161 = .ok (.if_icmp .gt 29, 3) := by decide +kernel
theorem dX9_readLine_164 : decode cX9_readLine 164 = .ok (.aload_n 0, 1) := by decide +kernel
theorem dX9_readLine_165 : decode cX9_readLine 165 = .ok (.aload_n 0, 1) := by decide +kernel
theorem dX9_readLine_166 : decode cX9_readLine 166 = .ok (.getfield 47, 3) := by decide +kernel
theorem dX9_readLine_169 : decode cX9_readLine 169 = .ok (.iload_n 1, 1) := by decide +kernel
theorem dX9_readLine_170 : decode cX9_readLine 170 = .ok (.baload, 1) := by decide +kernel
theorem dX9_readLine_171 : decode cX9_readLine 171 = .ok (.ifCond .ne 7, 3) := by decide +kernel
theorem dX9_readLine_174 : decode cX9_readLine 174 = .ok (.iconst 1, 1) := by decide +kernel
theorem dX9_readLine_175 : decode cX9_readLine 175 = .ok (.goto 4, 3) := by decide +kernel
theorem dX9_readLine_178 : decode cX9_readLine 178 = .ok (.iconst 0, 1) := by decide +kernel
theorem dX9_readLine_179 : decode cX9_readLine 179 = .ok (.iconst 4, 1) := by decide +kernel
theorem dX9_readLine_180 : decode cX9_readLine 180 = .ok (.invokevirtual 152, 3) := by decide +kernel
theorem dX9_readLine_183 : decode cX9_readLine 183 = .ok (.aload_n 0, 1) := by decide +kernel
theorem dX9_readLine_184 : decode cX9_readLine 184 = .ok (.getfield 47, 3) := by decide +kernel
theorem dX9_readLine_187 : decode cX9_readLine 187 = .ok (.iload_n 1, 1) := by decide +kernel
theorem dX9_readLine_188 : decode cX9_readLine 188 = .ok (.iconst 1, 1) := by decide +kernel
theorem dX9_readLine_189 : decode cX9_readLine 189 = .ok (.bastore, 1) := by decide +kernel
theorem dX9_readLine_190 : decode cX9_readLine 190 = .ok (.aload_n 0, 1) := by decide +kernel
theorem dX9_readLine_191 : decode cX9_readLine 191 = .ok (.invokevirtual 160, 3) := by decide +kernel
theorem dX9_readLine_194 : decode cX9_readLine 194 = .ok (.aload_n 0, 1) := by decide +kernel
theorem dX9_readLine_195 : decode cX9_readLine 195 = .ok (.getfield 118, 3) := by decide +kernel
theorem dX9_readLine_198 : decode cX9_readLine 198 = .ok (.ifCond .le 4, 3) := by decide +kernel
theorem dX9_readLine_201 : decode cX9_readLine 201 = .ok (.return_, 1) := by decide +kernel
theorem dX9_readLine_202 : decode cX9_readLine 202 = .ok (.iload_n 1, 1) := by decide +kernel
theorem dX9_readLine_203 : decode cX9_readLine 203 = .ok (.bipush 10, 2) := by decide +kernel
theorem dX9_readLine_205 : decode cX9_readLine 205 = .ok (.if_icmp .ne 10, 3) := by decide +kernel
theorem dX9_readLine_208 : decode cX9_readLine 208 = .ok (.aload_n 0, 1) := by decide +kernel
theorem dX9_readLine_209 : decode cX9_readLine 209 = .ok (.invokevirtual 184, 3) := by decide +kernel
theorem dX9_readLine_212 : decode cX9_readLine 212 = .ok (.goto 92, 3) := by decide +kernel
theorem dX9_readLine_215 : decode cX9_readLine 215 = .ok (.iload_n 1, 1) := by decide +kernel
theorem dX9_readLine_216 : decode cX9_readLine 216 = .ok (.bipush 11, 2) := by decide +kernel
theorem dX9_readLine_218 : decode cX9_readLine 218 = .ok (.if_icmp .ne 10, 3) := by decide +kernel
theorem dX9_readLine_221 : decode cX9_readLine 221 = .ok (.aload_n 0, 1) := by decide +kernel
theorem dX9_readLine_222 : decode cX9_readLine 222 = .ok (.invokevirtual 187, 3) := by decide +kernel
theorem dX9_readLine_225 : decode cX9_readLine 225 = .ok (.goto 79, 3) := by decide +kernel
theorem dX9_readLine_228 : decode cX9_readLine 228 = .ok (.iload_n 1, 1) := by decide +kernel
theorem dX9_readLine_229 : decode cX9_readLine 229 = .ok (.bipush 12, 2) := by decide +kernel
theorem dX9_readLine_231 : decode cX9_readLine 231 = .ok (.if_icmp .ne 10, 3) := by decide +kernel
theorem dX9_readLine_234 : decode cX9_readLine 234 = .ok (.aload_n 0, 1) := by decide +kernel
theorem dX9_readLine_235 : decode cX9_readLine 235 = .ok (.invokevirtual 190, 3) := by decide +kernel
theorem dX9_readLine_238 : decode cX9_readLine 238 = .ok (.goto 66, 3) := by decide +kernel
theorem dX9_readLine_241 : decode cX9_readLine 241 = .ok (.iload_n 1, 1) := by decide +kernel
theorem dX9_readLine_242 : decode cX9_readLine 242 = .ok (.bipush 13, 2) := by decide +kernel
theorem dX9_readLine_244 : decode cX9_readLine 244 = .ok (.if_icmp .ne 10, 3) := by decide +kernel
theorem dX9_readLine_247 : decode cX9_readLine 247 = .ok (.aload_n 0, 1) := by decide +kernel
theorem dX9_readLine_248 : decode cX9_readLine 248 = .ok (.invokevirtual 193, 3) := by decide +kernel
theorem dX9_readLine_251 : decode cX9_readLine 251 = .ok (.goto 53, 3) := by decide +kernel
theorem dX9_readLine_254 : decode cX9_readLine 254 = .ok (.iload_n 1, 1) := by decide +kernel
theorem dX9_readLine_255 : decode cX9_readLine 255 = .ok (.iconst 4, 1) := by decide +kernel
theorem dX9_readLine_256 : decode cX9_readLine 256 = .ok (.if_icmp .ne 16, 3) := by decide +kernel
theorem dX9_readLine_259 : decode cX9_readLine 259 = .ok (.aload_n 0, 1) := by decide +kernel
theorem dX9_readLine_260 : decode cX9_readLine 260 = .ok (.getfield 44, 3) := by decide +kernel
theorem dX9_readLine_263 : decode cX9_readLine 263 = .ok (.iconst 4, 1) := by decide +kernel
theorem dX9_readLine_264 : decode cX9_readLine 264 = .ok (.aload_n 0, 1) := by decide +kernel
theorem dX9_readLine_265 : decode cX9_readLine 265 = .ok (.invokevirtual 167, 3) := by decide +kernel
theorem dX9_readLine_268 : decode cX9_readLine 268 = .ok (.iastore, 1) := by decide +kernel
theorem dX9_readLine_269 : decode cX9_readLine 269 = .ok (.goto 35, 3) := by decide +kernel
theorem dX9_readLine_272 : decode cX9_readLine 272 = .ok (.aload_n 0, 1) := by decide +kernel
theorem dX9_readLine_273 : decode cX9_readLine 273 = .ok (.getfield 44, 3) := by decide +kernel
theorem dX9_readLine_276 : decode cX9_readLine 276 = .ok (.iload_n 1, 1) := by decide +kernel
theorem dX9_readLine_277 : decode cX9_readLine 277 = .ok (.aload_n 0, 1) := by decide +kernel
theorem dX9_readLine_278 : decode cX9_readLine 278 = .ok (.iconst 1, 1) := by decide +kernel
theorem dX9_readLine_279 : decode cX9_readLine 279 = .ok (.iload_n 1, 1) := by decide +kernel
theorem dX9_readLine_280 : decode cX9_readLine 280 = .ok (.ifCond .ne 7, 3) := by decide +kernel
theorem dX9_readLine_283 : decode cX9_readLine 283 = .ok (.iconst 3, 1) := by decide +kernel
theorem dX9_readLine_284 : decode cX9_readLine 284 = .ok (.goto 16, 3) := by decide +kernel
theorem dX9_readLine_287 : decode cX9_readLine 287 = .ok (.iload_n 1, 1) := by decide +kernel
theorem dX9_readLine_288 : decode cX9_readLine 288 = .ok (.iconst 1, 1) := by decide +kernel
theorem dX9_readLine_289 : decode cX9_readLine 289 = .ok (.if_icmp .ne 9, 3) := by decide +kernel
theorem dX9_readLine_292 : decode cX9_readLine 292 = .ok (.sipush 800, 3) := by decide +kernel
theorem dX9_readLine_295 : decode cX9_readLine 295 = .ok (.goto 5, 3) := by decide +kernel
theorem dX9_readLine_298 : decode cX9_readLine 298 = .ok (.bipush 99, 2) := by decide +kernel
theorem dX9_readLine_300 : decode cX9_readLine 300 = .ok (.invokevirtual 163, 3) := by decide +kernel
theorem dX9_readLine_303 : decode cX9_readLine 303 = .ok (.iastore, 1) := by decide +kernel
theorem dX9_readLine_304 : decode cX9_readLine 304 = .ok (.aload_n 0, 1) := by decide +kernel
theorem dX9_readLine_305 : decode cX9_readLine 305 = .ok (.getfield 118, 3) := by decide +kernel
theorem dX9_readLine_308 : decode cX9_readLine 308 = .ok (.ifCond .ne 21, 3) := by decide +kernel
theorem dX9_readLine_311 : decode cX9_readLine 311 = .ok (.aload_n 0, 1) := by decide +kernel
theorem dX9_readLine_312 : decode cX9_readLine 312 = .ok (.aload_n 0, 1) := by decide +kernel
theorem dX9_readLine_313 : decode cX9_readLine 313 = .ok (.getfield 138, 3) := by decide +kernel
theorem dX9_readLine_316 : decode cX9_readLine 316 = .ok (.iconst 3, 1) := by decide +kernel
theorem dX9_readLine_317 : decode cX9_readLine 317 = .ok (.if_icmp .ne 7, 3) := by decide +kernel
theorem dX9_readLine_320 : decode cX9_readLine 320 = .ok (.iconst 1, 1) := by decide +kernel
theorem dX9_readLine_321 : decode cX9_readLine 321 = .ok (.goto 4, 3) := by decide +kernel
theorem dX9_readLine_324 : decode cX9_readLine 324 = .ok (.iconst 0, 1) := by decide +kernel
theorem dX9_readLine_325 : decode cX9_readLine 325 = .ok (.iconst 2, 1) := by decide +kernel
theorem dX9_readLine_326 : decode cX9_readLine 326 = .ok (.invokevirtual 152, 3) := by decide +kernel
theorem dX9_readLine_329 : decode cX9_readLine 329 = .ok (.aload_n 0, 1) := by decide +kernel
theorem dX9_readLine_330 : decode cX9_readLine 330 = .ok (.invokevirtual 160, 3) := by decide +kernel
theorem dX9_readLine_333 : decode cX9_readLine 333 = .ok (.return_, 1) := by decide +kernel
theorem dX9_recall_0 : decode cX9_recall 0 = .ok (.iconst 0, 1) := by decide +kernel
theorem dX9_recall_1 : decode cX9_recall 1 = .ok (.istore_n 1, 1) := by decide +kernel
theorem dX9_recall_2 : decode cX9_recall 2 = .ok (.iconst 0, 1) := by decide +kernel
theorem dX9_recall_3 : decode cX9_recall 3 = .ok (.istore_n 2, 1) := by decide +kernel
theorem dX9_recall_4 : decode cX9_recall 4 = .ok (.iload_n 2, 1) := by decide +kernel
theorem dX9_recall_5 : decode cX9_recall 5 = .ok (.aload_n 0, 1) := by decide +kernel
theorem dX9_recall_6 : decode cX9_recall 6 = .ok (.getfield 7, 3) := by decide +kernel
theorem dX9_recall_9 : decode cX9_recall 9 = .ok (.bipush 76, 2) := by decide +kernel
theorem dX9_recall_11 : decode cX9_recall 11 = .ok (.iaload, 1) := by decide +kernel
theorem dX9_recall_12 : decode cX9_recall 12 = .ok (.if_icmp .ge 34, 3) := by decide +kernel
theorem dX9_recall_15 : decode cX9_recall 15 = .ok (.aload_n 0, 1) := by decide +kernel
theorem dX9_recall_16 : decode cX9_recall 16 = .ok (.getfield 7, 3) := by decide +kernel
theorem dX9_recall_19 : decode cX9_recall 19 = .ok (.bipush 47, 2) := by decide +kernel
theorem dX9_recall_21 : decode cX9_recall 21 = .ok (.iload_n 2, 1) := by decide +kernel
theorem dX9_recall_22 : decode cX9_recall 22 = .ok (.iadd, 1) := by decide +kernel
theorem dX9_recall_23 : decode cX9_recall 23 = .ok (.iaload, 1) := by decide +kernel
theorem dX9_recall_24 : decode cX9_recall 24 = .ok (.ifCond .ne 16, 3) := by decide +kernel
theorem dX9_recall_27 : decode cX9_recall 27 = .ok (.aload_n 0, 1) := by decide +kernel
theorem dX9_recall_28 : decode cX9_recall 28 = .ok (.getfield 7, 3) := by decide +kernel
theorem dX9_recall_31 : decode cX9_recall 31 = .ok (.bipush 47, 2) := by decide +kernel
theorem dX9_recall_33 : decode cX9_recall 33 = .ok (.iload_n 2, 1) := by decide +kernel
theorem dX9_recall_34 : decode cX9_recall 34 = .ok (.iadd, 1) := by decide +kernel
theorem dX9_recall_35 : decode cX9_recall 35 = .ok (.iconst 3, 1) := by decide +kernel
theorem dX9_recall_36 : decode cX9_recall 36 = .ok (.iastore, 1) := by decide +kernel
theorem dX9_recall_37 : decode cX9_recall 37 = .ok (.iinc 1 1, 3) := by decide +kernel
theorem dX9_recall_40 : decode cX9_recall 40 = .ok (.iinc 2 1, 3) := by decide +kernel
theorem dX9_recall_43 : decode cX9_recall 43 = .ok (.goto (-39), 3) := by decide +kernel
theorem dX9_recall_46 : decode cX9_recall 46 = .ok (.aload_n 0, 1) := by decide +kernel
theorem dX9_recall_47 : decode cX9_recall 47 = .ok (.getfield 7, 3) := by decide +kernel
theorem dX9_recall_50 : decode cX9_recall 50 = .ok (.bipush 75, 2) := by decide +kernel
theorem dX9_recall_52 : decode cX9_recall 52 = .ok (.dup2, 1) := by decide +kernel
theorem dX9_recall_53 : decode cX9_recall 53 = .ok (.iaload, 1) := by decide +kernel
theorem dX9_recall_54 : decode cX9_recall 54 = .ok (.iload_n 1, 1) := by decide +kernel
theorem dX9_recall_55 : decode cX9_recall 55 = .ok (.iadd, 1) := by decide +kernel
theorem dX9_recall_56 : decode cX9_recall 56 = .ok (.iastore, 1) := by decide +kernel
theorem dX9_recall_57 : decode cX9_recall 57 = .ok (.iload_n 1, 1) := by decide +kernel
theorem dX9_recall_58 : decode cX9_recall 58 = .ok (.ireturn, 1) := by decide +kernel
theorem dX9_rule_0 : decode cX9_rule 0 = .ok (.iload_n 1, 1) := by decide +kernel
theorem dX9_rule_1 : decode cX9_rule 1 = .ok (.i2l, 1) := by decide +kernel
theorem dX9_rule_2 : decode cX9_rule 2 = .ok (.lconst 0, 1) := by decide +kernel
theorem dX9_rule_3 : decode cX9_rule 3 = .ok (.ldc2_w 178, 3) := by decide +kernel
theorem dX9_rule_6 : decode cX9_rule 6 = .ok (.invokestatic 114, 3) := by decide +kernel
theorem dX9_rule_9 : decode cX9_rule 9 = .ok (.ifCond .eq 12, 3) := by decide +kernel
theorem dX9_rule_12 : decode cX9_rule 12 = .ok (.aload_n 0, 1) := by decide +kernel
theorem dX9_rule_13 : decode cX9_rule 13 = .ok (.getfield 29, 3) := by decide +kernel
theorem dX9_rule_16 : decode cX9_rule 16 = .ok (.iload_n 1, 1) := by decide +kernel
theorem dX9_rule_17 : decode cX9_rule 17 = .ok (.iaload, 1) := by decide +kernel
theorem dX9_rule_18 : decode cX9_rule 18 = .ok (.goto 4, 3) := by decide +kernel
theorem dX9_rule_21 : decode cX9_rule 21 = .ok (.iconst (-1), 1) := by decide +kernel
theorem dX9_rule_22 : decode cX9_rule 22 = .ok (.ireturn, 1) := by decide +kernel
theorem dX9_run_0 : decode cX9_run 0 = .ok (.iload_n 1, 1) := by decide +kernel
theorem dX9_run_1 : decode cX9_run 1 = .ok (.i2l, 1) := by decide +kernel
theorem dX9_run_2 : decode cX9_run 2 = .ok (.lconst 1, 1) := by decide +kernel
theorem dX9_run_3 : decode cX9_run 3 = .ok (.ldc2_w 256, 3) := by decide +kernel
theorem dX9_run_6 : decode cX9_run 6 = .ok (.invokestatic 114, 3) := by decide +kernel
theorem dX9_run_9 : decode cX9_run 9 = .ok (.ifCond .eq 15, 3) := by decide +kernel
theorem dX9_run_12 : decode cX9_run 12 = .ok (.iload_n 2, 1) := by decide +kernel
theorem dX9_run_13 : decode cX9_run 13 = .ok (.i2l, 1) := by decide +kernel
theorem dX9_run_14 : decode cX9_run 14 = .ok (.lconst 0, 1) := by decide +kernel
theorem dX9_run_15 : decode cX9_run 15 = .ok (.ldc2_w 229, 3) := by decide +kernel
theorem dX9_run_18 : decode cX9_run 18 = .ok (.invokestatic 114, 3) := by decide +kernel
theorem dX9_run_21 : decode cX9_run 21 = .ok (.ifCond .ne 5, 3) := by decide +kernel
theorem dX9_run_24 : decode cX9_run 24 = .ok (.iconst (-1), 1) := by decide +kernel
theorem dX9_run_25 : decode cX9_run 25 = .ok (.ireturn, 1) := by decide +kernel
theorem dX9_run_26 : decode cX9_run 26 = .ok (.aload_n 0, 1) := by decide +kernel
theorem dX9_run_27 : decode cX9_run 27 = .ok (.sipush 384, 3) := by decide +kernel
theorem dX9_run_30 : decode cX9_run 30 = .ok (.iconst 0, 1) := by decide +kernel
theorem dX9_run_31 : decode cX9_run 31 = .ok (.invokevirtual 261, 3) := by decide +kernel
theorem dX9_run_34 : decode cX9_run 34 = .ok (.aload_n 0, 1) := by decide +kernel
theorem dX9_run_35 : decode cX9_run 35 = .ok (.iload_n 1, 1) := by decide +kernel
theorem dX9_run_36 : decode cX9_run 36 = .ok (.invokevirtual 277, 3) := by decide +kernel
theorem dX9_run_39 : decode cX9_run 39 = .ok (.iload_n 2, 1) := by decide +kernel
theorem dX9_run_40 : decode cX9_run 40 = .ok (.tableswitch 95 0 5 #[40, 45, 54, 62, 70, 78], 40) := by decide +kernel
theorem dX9_run_80 : decode cX9_run 80 = .ok (.aload_n 0, 1) := by decide +kernel
theorem dX9_run_81 : decode cX9_run 81 = .ok (.invokevirtual 280, 3) := by decide +kernel
theorem dX9_run_84 : decode cX9_run 84 = .ok (.ireturn, 1) := by decide +kernel
theorem dX9_run_85 : decode cX9_run 85 = .ok (.aload_n 0, 1) := by decide +kernel
theorem dX9_run_86 : decode cX9_run 86 = .ok (.getfield 7, 3) := by decide +kernel
theorem dX9_run_89 : decode cX9_run 89 = .ok (.sipush 456, 3) := by decide +kernel
theorem dX9_run_92 : decode cX9_run 92 = .ok (.iaload, 1) := by decide +kernel
theorem dX9_run_93 : decode cX9_run 93 = .ok (.ireturn, 1) := by decide +kernel
theorem dX9_run_94 : decode cX9_run 94 = .ok (.aload_n 0, 1) := by decide +kernel
theorem dX9_run_95 : decode cX9_run 95 = .ok (.sipush 384, 3) := by decide +kernel
theorem dX9_run_98 : decode cX9_run 98 = .ok (.invokevirtual 202, 3) := by decide +kernel
theorem dX9_run_101 : decode cX9_run 101 = .ok (.ireturn, 1) := by decide +kernel
theorem dX9_run_102 : decode cX9_run 102 = .ok (.aload_n 0, 1) := by decide +kernel
theorem dX9_run_103 : decode cX9_run 103 = .ok (.sipush 384, 3) := by decide +kernel
theorem dX9_run_106 : decode cX9_run 106 = .ok (.invokevirtual 205, 3) := by decide +kernel
theorem dX9_run_109 : decode cX9_run 109 = .ok (.ireturn, 1) := by decide +kernel
theorem dX9_run_110 : decode cX9_run 110 = .ok (.aload_n 0, 1) := by decide +kernel
theorem dX9_run_111 : decode cX9_run 111 = .ok (.sipush 384, 3) := by decide +kernel
theorem dX9_run_114 : decode cX9_run 114 = .ok (.invokevirtual 208, 3) := by decide +kernel
theorem dX9_run_117 : decode cX9_run 117 = .ok (.ireturn, 1) := by decide +kernel
theorem dX9_run_118 : decode cX9_run 118 = .ok (.aload_n 0, 1) := by decide +kernel
theorem dX9_run_119 : decode cX9_run 119 = .ok (.getfield 7, 3) := by decide +kernel
theorem dX9_run_122 : decode cX9_run 122 = .ok (.sipush 459, 3) := by decide +kernel
theorem dX9_run_125 : decode cX9_run 125 = .ok (.iaload, 1) := by decide +kernel
theorem dX9_run_126 : decode cX9_run 126 = .ok (.aload_n 0, 1) := by decide +kernel
theorem dX9_run_127 : decode cX9_run 127 = .ok (.getfield 7, 3) := by decide +kernel
theorem dX9_run_130 : decode cX9_run 130 = .ok (.bipush 75, 2) := by decide +kernel
theorem dX9_run_132 : decode cX9_run 132 = .ok (.iaload, 1) := by decide +kernel
theorem dX9_run_133 : decode cX9_run 133 = .ok (.isub, 1) := by decide +kernel
theorem dX9_run_134 : decode cX9_run 134 = .ok (.ireturn, 1) := by decide +kernel
theorem dX9_run_135 : decode cX9_run 135 = .ok (.aload_n 0, 1) := by decide +kernel
theorem dX9_run_136 : decode cX9_run 136 = .ok (.getfield 274, 3) := by decide +kernel
theorem dX9_run_139 : decode cX9_run 139 = .ok (.ireturn, 1) := by decide +kernel
theorem dX9_sheet_0 : decode cX9_sheet 0 = .ok (.iload_n 1, 1) := by decide +kernel
theorem dX9_sheet_1 : decode cX9_sheet 1 = .ok (.iload_n 2, 1) := by decide +kernel
theorem dX9_sheet_2 : decode cX9_sheet 2 = .ok (.invokestatic 356, 3) := by decide +kernel
theorem dX9_sheet_5 : decode cX9_sheet 5 = .ok (.ifCond .eq 9, 3) := by decide +kernel
theorem dX9_sheet_8 : decode cX9_sheet 8 = .ok (.iload_n 3, 1) := by decide +kernel
theorem dX9_sheet_9 : decode cX9_sheet 9 = .ok (.bipush 40, 2) := by decide +kernel
theorem dX9_sheet_11 : decode cX9_sheet 11 = .ok (.if_icmp .le 5, 3) := by decide +kernel
theorem dX9_sheet_14 : decode cX9_sheet 14 = .ok (.iconst (-1), 1) := by decide +kernel
theorem dX9_sheet_15 : decode cX9_sheet 15 = .ok (.ireturn, 1) := by decide +kernel
theorem dX9_sheet_16 : decode cX9_sheet 16 = .ok (.iload_n 3, 1) := by decide +kernel
theorem dX9_sheet_17 : decode cX9_sheet 17 = .ok (.ifCond .ge 6, 3) := by decide +kernel
theorem dX9_sheet_20 : decode cX9_sheet 20 = .ok (.bipush (-14), 2) := by decide +kernel
theorem dX9_sheet_22 : decode cX9_sheet 22 = .ok (.ireturn, 1) := by decide +kernel
theorem dX9_sheet_23 : decode cX9_sheet 23 = .ok (.aload_n 0, 1) := by decide +kernel
theorem dX9_sheet_24 : decode cX9_sheet 24 = .ok (.getfield 65, 3) := by decide +kernel
theorem dX9_sheet_27 : decode cX9_sheet 27 = .ok (.iload_n 1, 1) := by decide +kernel
theorem dX9_sheet_28 : decode cX9_sheet 28 = .ok (.iload_n 2, 1) := by decide +kernel
theorem dX9_sheet_29 : decode cX9_sheet 29 = .ok (.iastore, 1) := by decide +kernel
theorem dX9_sheet_30 : decode cX9_sheet 30 = .ok (.aload_n 0, 1) := by decide +kernel
theorem dX9_sheet_31 : decode cX9_sheet 31 = .ok (.getfield 68, 3) := by decide +kernel
theorem dX9_sheet_34 : decode cX9_sheet 34 = .ok (.iload_n 1, 1) := by decide +kernel
theorem dX9_sheet_35 : decode cX9_sheet 35 = .ok (.iload_n 3, 1) := by decide +kernel
theorem dX9_sheet_36 : decode cX9_sheet 36 = .ok (.iastore, 1) := by decide +kernel
theorem dX9_sheet_37 : decode cX9_sheet 37 = .ok (.iconst 0, 1) := by decide +kernel
theorem dX9_sheet_38 : decode cX9_sheet 38 = .ok (.istore 4, 2) := by decide +kernel
theorem dX9_sheet_40 : decode cX9_sheet 40 = .ok (.iload 4, 2) := by decide +kernel
theorem dX9_sheet_42 : decode cX9_sheet 42 = .ok (.bipush 40, 2) := by decide +kernel
theorem dX9_sheet_44 : decode cX9_sheet 44 = .ok (.if_icmp .ge 22, 3) := by decide +kernel
theorem dX9_sheet_47 : decode cX9_sheet 47 = .ok (.aload_n 0, 1) := by decide +kernel
theorem dX9_sheet_48 : decode cX9_sheet 48 = .ok (.getfield 71, 3) := by decide +kernel
theorem dX9_sheet_51 : decode cX9_sheet 51 = .ok (.bipush 40, 2) := by decide +kernel
theorem dX9_sheet_53 : decode cX9_sheet 53 = .ok (.iload_n 1, 1) := by decide +kernel
theorem dX9_sheet_54 : decode cX9_sheet 54 = .ok (.imul, 1) := by decide +kernel
theorem dX9_sheet_55 : decode cX9_sheet 55 = .ok (.iload 4, 2) := by decide +kernel
theorem dX9_sheet_57 : decode cX9_sheet 57 = .ok (.iadd, 1) := by decide +kernel
theorem dX9_sheet_58 : decode cX9_sheet 58 = .ok (.iconst 0, 1) := by decide +kernel
theorem dX9_sheet_59 : decode cX9_sheet 59 = .ok (.iastore, 1) := by decide +kernel
theorem dX9_sheet_60 : decode cX9_sheet 60 = .ok (.iinc 4 1, 3) := by decide +kernel
theorem dX9_sheet_63 : decode cX9_sheet 63 = .ok (.goto (-23), 3) := by decide +kernel
theorem dX9_sheet_66 : decode cX9_sheet 66 = .ok (.iconst 1, 1) := by decide +kernel
theorem dX9_sheet_67 : decode cX9_sheet 67 = .ok (.ireturn, 1) := by decide +kernel
theorem dX9_sound_0 : decode cX9_sound 0 = .ok (.iload_n 1, 1) := by decide +kernel
theorem dX9_sound_1 : decode cX9_sound 1 = .ok (.i2l, 1) := by decide +kernel
theorem dX9_sound_2 : decode cX9_sound 2 = .ok (.lconst 0, 1) := by decide +kernel
theorem dX9_sound_3 : decode cX9_sound 3 = .ok (.ldc2_w 348, 3) := by decide +kernel
theorem dX9_sound_6 : decode cX9_sound 6 = .ok (.invokestatic 114, 3) := by decide +kernel
theorem dX9_sound_9 : decode cX9_sound 9 = .ok (.ifCond .ne 5, 3) := by decide +kernel
theorem dX9_sound_12 : decode cX9_sound 12 = .ok (.iconst (-1), 1) := by decide +kernel
theorem dX9_sound_13 : decode cX9_sound 13 = .ok (.ireturn, 1) := by decide +kernel
theorem dX9_sound_14 : decode cX9_sound 14 = .ok (.aload_n 0, 1) := by decide +kernel
theorem dX9_sound_15 : decode cX9_sound 15 = .ok (.getfield 350, 3) := by decide +kernel
theorem dX9_sound_18 : decode cX9_sound 18 = .ok (.bipush 8, 2) := by decide +kernel
theorem dX9_sound_20 : decode cX9_sound 20 = .ok (.if_icmp .ne 6, 3) := by decide +kernel
theorem dX9_sound_23 : decode cX9_sound 23 = .ok (.bipush (-3), 2) := by decide +kernel
theorem dX9_sound_25 : decode cX9_sound 25 = .ok (.ireturn, 1) := by decide +kernel
theorem dX9_sound_26 : decode cX9_sound 26 = .ok (.aload_n 0, 1) := by decide +kernel
theorem dX9_sound_27 : decode cX9_sound 27 = .ok (.getfield 62, 3) := by decide +kernel
theorem dX9_sound_30 : decode cX9_sound 30 = .ok (.aload_n 0, 1) := by decide +kernel
theorem dX9_sound_31 : decode cX9_sound 31 = .ok (.getfield 350, 3) := by decide +kernel
theorem dX9_sound_34 : decode cX9_sound 34 = .ok (.iload_n 1, 1) := by decide +kernel
theorem dX9_sound_35 : decode cX9_sound 35 = .ok (.iastore, 1) := by decide +kernel
theorem dX9_sound_36 : decode cX9_sound 36 = .ok (.aload_n 0, 1) := by decide +kernel
theorem dX9_sound_37 : decode cX9_sound 37 = .ok (.dup, 1) := by decide +kernel
theorem dX9_sound_38 : decode cX9_sound 38 = .ok (.getfield 350, 3) := by decide +kernel
theorem dX9_sound_41 : decode cX9_sound 41 = .ok (.iconst 1, 1) := by decide +kernel
theorem dX9_sound_42 : decode cX9_sound 42 = .ok (.iadd, 1) := by decide +kernel
theorem dX9_sound_43 : decode cX9_sound 43 = .ok (.putfield 350, 3) := by decide +kernel
theorem dX9_sound_46 : decode cX9_sound 46 = .ok (.aload_n 0, 1) := by decide +kernel
theorem dX9_sound_47 : decode cX9_sound 47 = .ok (.getfield 350, 3) := by decide +kernel
theorem dX9_sound_50 : decode cX9_sound 50 = .ok (.ireturn, 1) := by decide +kernel
def f_X9_readLine (F : Nat) (m : Mm) : Option (Mm) :=
  (if (m 113 25) = (1 : Int32) then ((f_X9_nameNow m).bind fun x2 => some x2) else (some (-4)) : Option (Int32)).bind fun y1 => (f_X9_in y1.toInt64 0 4).bind fun x4 => (if x4 = 0 then ((f_X9_in y1.toInt64 10 13).bind fun x7 => if x7 = 0 then (some 0) else (some 1)) else (some 1) : Option (Int32)).bind fun y6 => (f_X9_needs m y6 2).bind fun m10 => (if y1 = (10 : Int32) then (if (8 : Int32) ≤ (m10 113 11) then (some 0) else (some 1)) else (some 1) : Option (Int32)).bind fun y11 => (f_X9_needs m10 y11 5).bind fun m13 => (if y1 = (11 : Int32) then (if (10 : Int32) ≤ (m13 113 13) then (some 0) else (some 1)) else (some 1) : Option (Int32)).bind fun y14 => (f_X9_needs m13 y14 5).bind fun m16 => (if y1 = (12 : Int32) then (if (4 : Int32) ≤ (m16 113 15) then (some 0) else (some 1)) else (some 1) : Option (Int32)).bind fun y17 => (f_X9_needs m16 y17 5).bind fun m19 => (if y1 = (13 : Int32) then (if (3 : Int32) ≤ (m19 113 17) then (some 0) else (some 1)) else (some 1) : Option (Int32)).bind fun y20 => (f_X9_needs m19 y20 5).bind fun m22 => (if (m22 113 27) = 0 then (if (4 : Int32) < y1 then (some m22) else ((ald m22 126 5 y1).bind fun x24 => (if x24 = 0 then (some 1) else (some 0) : Option (Int32)).bind fun y25 => (f_X9_needs m22 y25 4).bind fun m27 => (ast m27 126 5 y1 (vp_nar .boolean 1)).bind fun m28 => some m28)) else (some m22) : Option (Mm)).bind fun y23 => (f_X9_next F y23).bind fun m30 => if (m30 113 27) ≤ 0 then ((if y1 = (10 : Int32) then ((f_X9_aHold F m30).bind fun m46 => some m46) else (if y1 = (11 : Int32) then ((f_X9_aDoor F m30).bind fun m44 => some m44) else (if y1 = (12 : Int32) then ((f_X9_aHole F m30).bind fun m42 => some m42) else (if y1 = (13 : Int32) then ((f_X9_aPump F m30).bind fun m40 => some m40) else (if y1 = (4 : Int32) then (bind2 (f_X9_readHold F m30) fun x36 m37 => (ast m37 125 5 4 x36).bind fun m38 => some m38) else ((if y1 = 0 then (some 3) else (if y1 = (1 : Int32) then (some 800) else (some 99)) : Option (Int32)).bind fun y32 => bind2 (f_X9_readNumber F m30 1 y32) fun x33 m34 => (ast m34 125 5 y1 x33).bind fun m35 => some m35))))) : Option (Mm)).bind fun y31 => (if (y31 113 27) = 0 then ((if (y31 113 25) = (3 : Int32) then (some 1) else (some 0) : Option (Int32)).bind fun y48 => (f_X9_needs y31 y48 2).bind fun m50 => some m50) else (some y31) : Option (Mm)).bind fun y47 => (f_X9_next F y47).bind fun m52 => some m52) else (some m30)
set_option maxHeartbeats 4000000 in
set_option maxRecDepth 100000 in
theorem ct_X9_readLine (F : Nat) {n : Nat} (hn : 135 ≤ n) (P D : Nat) (T : Option Nat) (m : Mm)  : Ct yX9_readLine cX9_readLine 2 none 5 117 [.ref 113] n n m (RF P D T) (rV (RF P D T) (f_X9_readLine F m)) := by
  refine Ct.ofV (own := RX9) (nm := "readLine") [(0, .ref 113)] (by decide) (Nat.le_of_ble_eq_true rfl) rfl rfl rfl ?_
  unfold f_X9_readLine
  refine J_aload_n 0 0 113 dX9_readLine_0 rfl rfl ?_
  refine J_getI 113 9 25 dX9_readLine_1 fl_9_138 rfl rfl (Nat.lt_of_lt_of_le (Nat.le_of_ble_eq_true rfl) hn) ?_
  refine J_iconst 1 dX9_readLine_4 (by decide) ?_
  refine J_seqJ 17 (fun y1 : Int32 => [(0, .ref 113)]) (fun y1 => [.int y1]) (fun y1 => m) (fun y1 => ?_) (fun k1 hEy1 => ?_)
  · refine J_istore_n 1 [(1, .int y1), (0, .ref 113)] dX9_readLine_17 rfl (by decide) rfl ?_
    refine J_aload_n 0 1 113 dX9_readLine_18 rfl rfl ?_
    refine J_iload_n 1 0 y1 dX9_readLine_19 rfl rfl ?_
    refine J_i2l dX9_readLine_20 ?_
    refine J_lconst 0 dX9_readLine_21 (by decide) ?_
    refine J_ldc2 4 dX9_readLine_22 kl_9_178 ?_
    refine J_callSP 3 [.long y1.toInt64, .long 0, .long 4] dX9_readLine_25 mv_X9_in mv_X9_ins lk_9_114 (ct_X9_in F hn P D T m y1.toInt64 0 4) rfl ⟨by decide, by decide⟩ (Nat.le_of_ble_eq_true rfl) (fun x4 => ?_)
    refine J_seqJ 50 (fun y6 : Int32 => [(0, .ref 113), (1, .int y1)]) (fun y6 => [.int y6, .ref 113]) (fun y6 => m) (fun y6 => ?_) (fun k1 hEy6 => ?_)
    · refine J_iconst 2 dX9_readLine_50 (by decide) ?_
      refine J_callVV 113 9 2 [.int y6, .int 2] dX9_readLine_51 mv_X9_needs mv_X9_needsv lk_9_152 (ct_X9_needs F hn P D T m y6 2) rfl rfl (by decide) rfl (Nat.lt_of_lt_of_le (Nat.le_of_ble_eq_true rfl) hn) ⟨by decide, by decide⟩ (Nat.le_of_ble_eq_true rfl) (fun m10 => ?_)
      refine J_aload_n 0 0 113 dX9_readLine_54 rfl rfl ?_
      refine J_iload_n 1 1 y1 dX9_readLine_55 rfl rfl ?_
      refine J_bipush 10 dX9_readLine_56 (by decide) ?_
      refine J_seqJ 75 (fun y11 : Int32 => [(0, .ref 113), (1, .int y1)]) (fun y11 => [.int y11, .ref 113]) (fun y11 => m10) (fun y11 => ?_) (fun k1 hEy11 => ?_)
      · refine J_iconst 5 dX9_readLine_75 (by decide) ?_
        refine J_callVV 113 9 2 [.int y11, .int 5] dX9_readLine_76 mv_X9_needs mv_X9_needsv lk_9_152 (ct_X9_needs F hn P D T m10 y11 5) rfl rfl (by decide) rfl (Nat.lt_of_lt_of_le (Nat.le_of_ble_eq_true rfl) hn) ⟨by decide, by decide⟩ (Nat.le_of_ble_eq_true rfl) (fun m13 => ?_)
        refine J_aload_n 0 0 113 dX9_readLine_79 rfl rfl ?_
        refine J_iload_n 1 1 y1 dX9_readLine_80 rfl rfl ?_
        refine J_bipush 11 dX9_readLine_81 (by decide) ?_
        refine J_seqJ 100 (fun y14 : Int32 => [(0, .ref 113), (1, .int y1)]) (fun y14 => [.int y14, .ref 113]) (fun y14 => m13) (fun y14 => ?_) (fun k1 hEy14 => ?_)
        · refine J_iconst 5 dX9_readLine_100 (by decide) ?_
          refine J_callVV 113 9 2 [.int y14, .int 5] dX9_readLine_101 mv_X9_needs mv_X9_needsv lk_9_152 (ct_X9_needs F hn P D T m13 y14 5) rfl rfl (by decide) rfl (Nat.lt_of_lt_of_le (Nat.le_of_ble_eq_true rfl) hn) ⟨by decide, by decide⟩ (Nat.le_of_ble_eq_true rfl) (fun m16 => ?_)
          refine J_aload_n 0 0 113 dX9_readLine_104 rfl rfl ?_
          refine J_iload_n 1 1 y1 dX9_readLine_105 rfl rfl ?_
          refine J_bipush 12 dX9_readLine_106 (by decide) ?_
          refine J_seqJ 124 (fun y17 : Int32 => [(0, .ref 113), (1, .int y1)]) (fun y17 => [.int y17, .ref 113]) (fun y17 => m16) (fun y17 => ?_) (fun k1 hEy17 => ?_)
          · refine J_iconst 5 dX9_readLine_124 (by decide) ?_
            refine J_callVV 113 9 2 [.int y17, .int 5] dX9_readLine_125 mv_X9_needs mv_X9_needsv lk_9_152 (ct_X9_needs F hn P D T m16 y17 5) rfl rfl (by decide) rfl (Nat.lt_of_lt_of_le (Nat.le_of_ble_eq_true rfl) hn) ⟨by decide, by decide⟩ (Nat.le_of_ble_eq_true rfl) (fun m19 => ?_)
            refine J_aload_n 0 0 113 dX9_readLine_128 rfl rfl ?_
            refine J_iload_n 1 1 y1 dX9_readLine_129 rfl rfl ?_
            refine J_bipush 13 dX9_readLine_130 (by decide) ?_
            refine J_seqJ 148 (fun y20 : Int32 => [(0, .ref 113), (1, .int y1)]) (fun y20 => [.int y20, .ref 113]) (fun y20 => m19) (fun y20 => ?_) (fun k1 hEy20 => ?_)
            · refine J_iconst 5 dX9_readLine_148 (by decide) ?_
              refine J_callVV 113 9 2 [.int y20, .int 5] dX9_readLine_149 mv_X9_needs mv_X9_needsv lk_9_152 (ct_X9_needs F hn P D T m19 y20 5) rfl rfl (by decide) rfl (Nat.lt_of_lt_of_le (Nat.le_of_ble_eq_true rfl) hn) ⟨by decide, by decide⟩ (Nat.le_of_ble_eq_true rfl) (fun m22 => ?_)
              refine J_aload_n 0 0 113 dX9_readLine_152 rfl rfl ?_
              refine J_getI 113 9 27 dX9_readLine_153 fl_9_118 rfl rfl (Nat.lt_of_lt_of_le (Nat.le_of_ble_eq_true rfl) hn) ?_
              refine J_seqJ 190 (fun y23 : Mm => [(0, .ref 113), (1, .int y1)]) (fun y23 => []) (fun y23 => y23) (fun y23 => ?_) (fun k1 hEy23 => ?_)
              · refine J_aload_n 0 0 113 dX9_readLine_190 rfl rfl ?_
                refine J_callVV 113 9 0 [] dX9_readLine_191 mv_X9_next mv_X9_nextv lk_9_160 (ct_X9_next F hn P D T y23) rfl rfl (by decide) rfl (Nat.lt_of_lt_of_le (Nat.le_of_ble_eq_true rfl) hn) ⟨by decide, by decide⟩ (Nat.le_of_ble_eq_true rfl) (fun m30 => ?_)
                refine J_aload_n 0 0 113 dX9_readLine_194 rfl rfl ?_
                refine J_getI 113 9 27 dX9_readLine_195 fl_9_118 rfl rfl (Nat.lt_of_lt_of_le (Nat.le_of_ble_eq_true rfl) hn) ?_
                refine J_if_le 202 dX9_readLine_198 (by decide) ?_ ?_
                · refine J_iload_n 1 1 y1 dX9_readLine_202 rfl rfl ?_
                  refine J_bipush 10 dX9_readLine_203 (by decide) ?_
                  refine J_seqJ 304 (fun y31 : Mm => [(0, .ref 113)]) (fun y31 => []) (fun y31 => y31) (fun y31 => ?_) (fun k1 hEy31 => ?_)
                  · refine J_aload_n 0 0 113 dX9_readLine_304 rfl rfl ?_
                    refine J_getI 113 9 27 dX9_readLine_305 fl_9_118 rfl rfl (Nat.lt_of_lt_of_le (Nat.le_of_ble_eq_true rfl) hn) ?_
                    refine J_seqJ 329 (fun y47 : Mm => [(0, .ref 113)]) (fun y47 => []) (fun y47 => y47) (fun y47 => ?_) (fun k1 hEy47 => ?_)
                    · refine J_aload_n 0 0 113 dX9_readLine_329 rfl rfl ?_
                      refine J_callVV 113 9 0 [] dX9_readLine_330 mv_X9_next mv_X9_nextv lk_9_160 (ct_X9_next F hn P D T y47) rfl rfl (by decide) rfl (Nat.lt_of_lt_of_le (Nat.le_of_ble_eq_true rfl) hn) ⟨by decide, by decide⟩ (Nat.le_of_ble_eq_true rfl) (fun m52 => ?_)
                      exact J_vretV dX9_readLine_333 rfl rfl
                    · refine J_if_ne 329 dX9_readLine_308 (by decide) ?_ ?_
                      · exact J_lv [0] rfl (hEy47 y31)
                      · refine J_aload_n 0 0 113 dX9_readLine_311 rfl rfl ?_
                        refine J_aload_n 0 0 113 dX9_readLine_312 rfl rfl ?_
                        refine J_getI 113 9 25 dX9_readLine_313 fl_9_138 rfl rfl (Nat.lt_of_lt_of_le (Nat.le_of_ble_eq_true rfl) hn) ?_
                        refine J_iconst 3 dX9_readLine_316 (by decide) ?_
                        refine J_seqJ 325 (fun y48 : Int32 => [(0, .ref 113)]) (fun y48 => [.int y48, .ref 113]) (fun y48 => y31) (fun y48 => ?_) (fun k1 hEy48 => ?_)
                        · refine J_iconst 2 dX9_readLine_325 (by decide) ?_
                          refine J_callVV 113 9 2 [.int y48, .int 2] dX9_readLine_326 mv_X9_needs mv_X9_needsv lk_9_152 (ct_X9_needs F hn P D T y31 y48 2) rfl rfl (by decide) rfl (Nat.lt_of_lt_of_le (Nat.le_of_ble_eq_true rfl) hn) ⟨by decide, by decide⟩ (Nat.le_of_ble_eq_true rfl) (fun m50 => ?_)
                          exact J_lv [0] rfl (hEy47 m50)
                        · refine J_icmp_ne 324 dX9_readLine_317 (by decide) ?_ ?_
                          · refine J_iconst 0 dX9_readLine_324 (by decide) ?_
                            exact J_lv [0] rfl (hEy48 0)
                          · refine J_iconst 1 dX9_readLine_320 (by decide) ?_
                            refine J_goto 325 dX9_readLine_321 (by decide) ?_
                            exact J_lv [0] rfl (hEy48 1)
                  · refine J_icmp_ne 215 dX9_readLine_205 (by decide) ?_ ?_
                    · refine J_iload_n 1 1 y1 dX9_readLine_215 rfl rfl ?_
                      refine J_bipush 11 dX9_readLine_216 (by decide) ?_
                      refine J_icmp_ne 228 dX9_readLine_218 (by decide) ?_ ?_
                      · refine J_iload_n 1 1 y1 dX9_readLine_228 rfl rfl ?_
                        refine J_bipush 12 dX9_readLine_229 (by decide) ?_
                        refine J_icmp_ne 241 dX9_readLine_231 (by decide) ?_ ?_
                        · refine J_iload_n 1 1 y1 dX9_readLine_241 rfl rfl ?_
                          refine J_bipush 13 dX9_readLine_242 (by decide) ?_
                          refine J_icmp_ne 254 dX9_readLine_244 (by decide) ?_ ?_
                          · refine J_iload_n 1 1 y1 dX9_readLine_254 rfl rfl ?_
                            refine J_iconst 4 dX9_readLine_255 (by decide) ?_
                            refine J_icmp_ne 272 dX9_readLine_256 (by decide) ?_ ?_
                            · refine J_aload_n 0 0 113 dX9_readLine_272 rfl rfl ?_
                              refine J_getR 113 9 19 125 dX9_readLine_273 fl_9_44 rfl rfl (Nat.lt_of_lt_of_le (Nat.le_of_ble_eq_true rfl) hn) rfl ?_
                              refine J_iload_n 1 1 y1 dX9_readLine_276 rfl rfl ?_
                              refine J_aload_n 0 0 113 dX9_readLine_277 rfl rfl ?_
                              refine J_iconst 1 dX9_readLine_278 (by decide) ?_
                              refine J_iload_n 1 1 y1 dX9_readLine_279 rfl rfl ?_
                              refine J_seqJ 300 (fun y32 : Int32 => [(0, .ref 113)]) (fun y32 => [.int y32, .int 1, .ref 113, .int y1, .ref 125]) (fun y32 => m30) (fun y32 => ?_) (fun k1 hEy32 => ?_)
                              · refine J_callVI 113 9 2 [.int 1, .int y32] dX9_readLine_300 mv_X9_readNumber mv_X9_readNumberv lk_9_163 (ct_X9_readNumber F hn P D T m30 1 y32) rfl rfl (by decide) rfl (Nat.lt_of_lt_of_le (Nat.le_of_ble_eq_true rfl) hn) ⟨by decide, by decide⟩ (Nat.le_of_ble_eq_true rfl) (fun x33 m34 => ?_)
                                refine J_iast 125 5 dX9_readLine_303 rfl (Nat.lt_of_lt_of_le (Nat.le_of_ble_eq_true rfl) hn) (fun m35 => ?_)
                                exact J_lv [0] rfl (hEy31 m35)
                              · refine J_if_ne 287 dX9_readLine_280 (by decide) ?_ ?_
                                · refine J_iload_n 1 1 y1 dX9_readLine_287 rfl rfl ?_
                                  refine J_iconst 1 dX9_readLine_288 (by decide) ?_
                                  refine J_icmp_ne 298 dX9_readLine_289 (by decide) ?_ ?_
                                  · refine J_bipush 99 dX9_readLine_298 (by decide) ?_
                                    exact J_lv [0] rfl (hEy32 99)
                                  · refine J_sipush 800 dX9_readLine_292 (by decide) ?_
                                    refine J_goto 300 dX9_readLine_295 (by decide) ?_
                                    exact J_lv [0] rfl (hEy32 800)
                                · refine J_iconst 3 dX9_readLine_283 (by decide) ?_
                                  refine J_goto 300 dX9_readLine_284 (by decide) ?_
                                  exact J_lv [0] rfl (hEy32 3)
                            · refine J_aload_n 0 0 113 dX9_readLine_259 rfl rfl ?_
                              refine J_getR 113 9 19 125 dX9_readLine_260 fl_9_44 rfl rfl (Nat.lt_of_lt_of_le (Nat.le_of_ble_eq_true rfl) hn) rfl ?_
                              refine J_iconst 4 dX9_readLine_263 (by decide) ?_
                              refine J_aload_n 0 0 113 dX9_readLine_264 rfl rfl ?_
                              refine J_callVI 113 9 0 [] dX9_readLine_265 mv_X9_readHold mv_X9_readHoldv lk_9_167 (ct_X9_readHold F hn P D T m30) rfl rfl (by decide) rfl (Nat.lt_of_lt_of_le (Nat.le_of_ble_eq_true rfl) hn) ⟨by decide, by decide⟩ (Nat.le_of_ble_eq_true rfl) (fun x36 m37 => ?_)
                              refine J_iast 125 5 dX9_readLine_268 rfl (Nat.lt_of_lt_of_le (Nat.le_of_ble_eq_true rfl) hn) (fun m38 => ?_)
                              refine J_goto 304 dX9_readLine_269 (by decide) ?_
                              exact J_lv [0] rfl (hEy31 m38)
                          · refine J_aload_n 0 0 113 dX9_readLine_247 rfl rfl ?_
                            refine J_callVV 113 9 0 [] dX9_readLine_248 mv_X9_aPump mv_X9_aPumpv lk_9_193 (ct_X9_aPump F hn P D T m30) rfl rfl (by decide) rfl (Nat.lt_of_lt_of_le (Nat.le_of_ble_eq_true rfl) hn) ⟨by decide, by decide⟩ (Nat.le_of_ble_eq_true rfl) (fun m40 => ?_)
                            refine J_goto 304 dX9_readLine_251 (by decide) ?_
                            exact J_lv [0] rfl (hEy31 m40)
                        · refine J_aload_n 0 0 113 dX9_readLine_234 rfl rfl ?_
                          refine J_callVV 113 9 0 [] dX9_readLine_235 mv_X9_aHole mv_X9_aHolev lk_9_190 (ct_X9_aHole F hn P D T m30) rfl rfl (by decide) rfl (Nat.lt_of_lt_of_le (Nat.le_of_ble_eq_true rfl) hn) ⟨by decide, by decide⟩ (Nat.le_of_ble_eq_true rfl) (fun m42 => ?_)
                          refine J_goto 304 dX9_readLine_238 (by decide) ?_
                          exact J_lv [0] rfl (hEy31 m42)
                      · refine J_aload_n 0 0 113 dX9_readLine_221 rfl rfl ?_
                        refine J_callVV 113 9 0 [] dX9_readLine_222 mv_X9_aDoor mv_X9_aDoorv lk_9_187 (ct_X9_aDoor F hn P D T m30) rfl rfl (by decide) rfl (Nat.lt_of_lt_of_le (Nat.le_of_ble_eq_true rfl) hn) ⟨by decide, by decide⟩ (Nat.le_of_ble_eq_true rfl) (fun m44 => ?_)
                        refine J_goto 304 dX9_readLine_225 (by decide) ?_
                        exact J_lv [0] rfl (hEy31 m44)
                    · refine J_aload_n 0 0 113 dX9_readLine_208 rfl rfl ?_
                      refine J_callVV 113 9 0 [] dX9_readLine_209 mv_X9_aHold mv_X9_aHoldv lk_9_184 (ct_X9_aHold F hn P D T m30) rfl rfl (by decide) rfl (Nat.lt_of_lt_of_le (Nat.le_of_ble_eq_true rfl) hn) ⟨by decide, by decide⟩ (Nat.le_of_ble_eq_true rfl) (fun m46 => ?_)
                      refine J_goto 304 dX9_readLine_212 (by decide) ?_
                      exact J_lv [0] rfl (hEy31 m46)
                · exact J_vretV dX9_readLine_201 rfl rfl
              · refine J_if_ne 190 dX9_readLine_156 (by decide) ?_ ?_
                · exact J_lv [0, 1] rfl (hEy23 m22)
                · refine J_iload_n 1 1 y1 dX9_readLine_159 rfl rfl ?_
                  refine J_iconst 4 dX9_readLine_160 (by decide) ?_
                  refine J_icmp_gt 190 dX9_readLine_161 (by decide) ?_ ?_
                  · exact J_lv [0, 1] rfl (hEy23 m22)
                  · refine J_aload_n 0 0 113 dX9_readLine_164 rfl rfl ?_
                    refine J_aload_n 0 0 113 dX9_readLine_165 rfl rfl ?_
                    refine J_getR 113 9 20 126 dX9_readLine_166 fl_9_47 rfl rfl (Nat.lt_of_lt_of_le (Nat.le_of_ble_eq_true rfl) hn) rfl ?_
                    refine J_iload_n 1 1 y1 dX9_readLine_169 rfl rfl ?_
                    refine J_zald 126 5 dX9_readLine_170 rfl (Nat.lt_of_lt_of_le (Nat.le_of_ble_eq_true rfl) hn) (fun x24 => ?_)
                    refine J_seqJ 179 (fun y25 : Int32 => [(0, .ref 113), (1, .int y1)]) (fun y25 => [.int y25, .ref 113]) (fun y25 => m22) (fun y25 => ?_) (fun k1 hEy25 => ?_)
                    · refine J_iconst 4 dX9_readLine_179 (by decide) ?_
                      refine J_callVV 113 9 2 [.int y25, .int 4] dX9_readLine_180 mv_X9_needs mv_X9_needsv lk_9_152 (ct_X9_needs F hn P D T m22 y25 4) rfl rfl (by decide) rfl (Nat.lt_of_lt_of_le (Nat.le_of_ble_eq_true rfl) hn) ⟨by decide, by decide⟩ (Nat.le_of_ble_eq_true rfl) (fun m27 => ?_)
                      refine J_aload_n 0 0 113 dX9_readLine_183 rfl rfl ?_
                      refine J_getR 113 9 20 126 dX9_readLine_184 fl_9_47 rfl rfl (Nat.lt_of_lt_of_le (Nat.le_of_ble_eq_true rfl) hn) rfl ?_
                      refine J_iload_n 1 1 y1 dX9_readLine_187 rfl rfl ?_
                      refine J_iconst 1 dX9_readLine_188 (by decide) ?_
                      refine J_zast 126 5 dX9_readLine_189 rfl (Nat.lt_of_lt_of_le (Nat.le_of_ble_eq_true rfl) hn) (fun m28 => ?_)
                      exact J_lv [0, 1] rfl (hEy23 m28)
                    · refine J_if_ne 178 dX9_readLine_171 (by decide) ?_ ?_
                      · refine J_iconst 0 dX9_readLine_178 (by decide) ?_
                        exact J_lv [0, 1] rfl (hEy25 0)
                      · refine J_iconst 1 dX9_readLine_174 (by decide) ?_
                        refine J_goto 179 dX9_readLine_175 (by decide) ?_
                        exact J_lv [0, 1] rfl (hEy25 1)
            · refine J_icmp_ne 143 dX9_readLine_132 (by decide) ?_ ?_
              · refine J_iconst 1 dX9_readLine_143 (by decide) ?_
                refine J_goto 148 dX9_readLine_144 (by decide) ?_
                exact J_lv [0, 1] rfl (hEy20 1)
              · refine J_aload_n 0 0 113 dX9_readLine_135 rfl rfl ?_
                refine J_getI 113 9 17 dX9_readLine_136 fl_9_90 rfl rfl (Nat.lt_of_lt_of_le (Nat.le_of_ble_eq_true rfl) hn) ?_
                refine J_iconst 3 dX9_readLine_139 (by decide) ?_
                refine J_icmp_ge 147 dX9_readLine_140 (by decide) ?_ ?_
                · refine J_iconst 0 dX9_readLine_147 (by decide) ?_
                  exact J_lv [0, 1] rfl (hEy20 0)
                · refine J_iconst 1 dX9_readLine_143 (by decide) ?_
                  refine J_goto 148 dX9_readLine_144 (by decide) ?_
                  exact J_lv [0, 1] rfl (hEy20 1)
          · refine J_icmp_ne 119 dX9_readLine_108 (by decide) ?_ ?_
            · refine J_iconst 1 dX9_readLine_119 (by decide) ?_
              refine J_goto 124 dX9_readLine_120 (by decide) ?_
              exact J_lv [0, 1] rfl (hEy17 1)
            · refine J_aload_n 0 0 113 dX9_readLine_111 rfl rfl ?_
              refine J_getI 113 9 15 dX9_readLine_112 fl_9_87 rfl rfl (Nat.lt_of_lt_of_le (Nat.le_of_ble_eq_true rfl) hn) ?_
              refine J_iconst 4 dX9_readLine_115 (by decide) ?_
              refine J_icmp_ge 123 dX9_readLine_116 (by decide) ?_ ?_
              · refine J_iconst 0 dX9_readLine_123 (by decide) ?_
                exact J_lv [0, 1] rfl (hEy17 0)
              · refine J_iconst 1 dX9_readLine_119 (by decide) ?_
                refine J_goto 124 dX9_readLine_120 (by decide) ?_
                exact J_lv [0, 1] rfl (hEy17 1)
        · refine J_icmp_ne 95 dX9_readLine_83 (by decide) ?_ ?_
          · refine J_iconst 1 dX9_readLine_95 (by decide) ?_
            refine J_goto 100 dX9_readLine_96 (by decide) ?_
            exact J_lv [0, 1] rfl (hEy14 1)
          · refine J_aload_n 0 0 113 dX9_readLine_86 rfl rfl ?_
            refine J_getI 113 9 13 dX9_readLine_87 fl_9_84 rfl rfl (Nat.lt_of_lt_of_le (Nat.le_of_ble_eq_true rfl) hn) ?_
            refine J_bipush 10 dX9_readLine_90 (by decide) ?_
            refine J_icmp_ge 99 dX9_readLine_92 (by decide) ?_ ?_
            · refine J_iconst 0 dX9_readLine_99 (by decide) ?_
              exact J_lv [0, 1] rfl (hEy14 0)
            · refine J_iconst 1 dX9_readLine_95 (by decide) ?_
              refine J_goto 100 dX9_readLine_96 (by decide) ?_
              exact J_lv [0, 1] rfl (hEy14 1)
      · refine J_icmp_ne 70 dX9_readLine_58 (by decide) ?_ ?_
        · refine J_iconst 1 dX9_readLine_70 (by decide) ?_
          refine J_goto 75 dX9_readLine_71 (by decide) ?_
          exact J_lv [0, 1] rfl (hEy11 1)
        · refine J_aload_n 0 0 113 dX9_readLine_61 rfl rfl ?_
          refine J_getI 113 9 11 dX9_readLine_62 fl_9_80 rfl rfl (Nat.lt_of_lt_of_le (Nat.le_of_ble_eq_true rfl) hn) ?_
          refine J_bipush 8 dX9_readLine_65 (by decide) ?_
          refine J_icmp_ge 74 dX9_readLine_67 (by decide) ?_ ?_
          · refine J_iconst 0 dX9_readLine_74 (by decide) ?_
            exact J_lv [0, 1] rfl (hEy11 0)
          · refine J_iconst 1 dX9_readLine_70 (by decide) ?_
            refine J_goto 75 dX9_readLine_71 (by decide) ?_
            exact J_lv [0, 1] rfl (hEy11 1)
    · refine J_if_ne 45 dX9_readLine_28 (by decide) ?_ ?_
      · refine J_iconst 1 dX9_readLine_45 (by decide) ?_
        refine J_goto 50 dX9_readLine_46 (by decide) ?_
        exact J_lv [1, 0] rfl (hEy6 1)
      · refine J_iload_n 1 0 y1 dX9_readLine_31 rfl rfl ?_
        refine J_i2l dX9_readLine_32 ?_
        refine J_ldc2 10 dX9_readLine_33 kl_9_180 ?_
        refine J_ldc2 13 dX9_readLine_36 kl_9_182 ?_
        refine J_callSP 3 [.long y1.toInt64, .long 10, .long 13] dX9_readLine_39 mv_X9_in mv_X9_ins lk_9_114 (ct_X9_in F hn P D T m y1.toInt64 10 13) rfl ⟨by decide, by decide⟩ (Nat.le_of_ble_eq_true rfl) (fun x7 => ?_)
        refine J_if_eq 49 dX9_readLine_42 (by decide) ?_ ?_
        · refine J_iconst 0 dX9_readLine_49 (by decide) ?_
          exact J_lv [1, 0] rfl (hEy6 0)
        · refine J_iconst 1 dX9_readLine_45 (by decide) ?_
          refine J_goto 50 dX9_readLine_46 (by decide) ?_
          exact J_lv [1, 0] rfl (hEy6 1)
  · refine J_icmp_ne 15 dX9_readLine_5 (by decide) ?_ ?_
    · refine J_bipush (-4) dX9_readLine_15 (by decide) ?_
      exact J_lv [0] rfl (hEy1 (-4))
    · refine J_aload_n 0 0 113 dX9_readLine_8 rfl rfl ?_
      refine J_callVP 113 9 0 [] dX9_readLine_9 mv_X9_nameNow mv_X9_nameNowv lk_9_171 (ct_X9_nameNow F hn P D T m) rfl rfl (by decide) rfl (Nat.lt_of_lt_of_le (Nat.le_of_ble_eq_true rfl) hn) ⟨by decide, by decide⟩ (Nat.le_of_ble_eq_true rfl) (fun x2 => ?_)
      refine J_goto 17 dX9_readLine_12 (by decide) ?_
      exact J_lv [0] rfl (hEy1 x2)
def b_X9_recall_4  (t1 : Int32 × Int32 × Mm) : Option ((Int32 × Int32 × Mm) ⊕ (Int32 × Mm)) :=
  (ald t1.2.2 114 512 76).bind fun x3 => if x3 ≤ t1.2.1 then (some (Sum.inr ((t1.1, t1.2.2)))) else ((ald t1.2.2 114 512 ((47 : Int32) + t1.2.1)).bind fun x4 => (if x4 = 0 then ((ast t1.2.2 114 512 ((47 : Int32) + t1.2.1) 3).bind fun m6 => some (t1.1 + 1, m6)) else (some (t1.1, t1.2.2)) : Option (Int32 × Mm)).bind fun y5 => some (Sum.inl (y5.1, t1.2.1 + 1, y5.2)))
def f_X9_recall (F : Nat) (m : Mm) : Option (Int32 × Mm) :=
  (iter F b_X9_recall_4 ((0, 0, m) : Int32 × Int32 × Mm)).bind (fun e2 : Int32 × Mm => (ald e2.2 114 512 75).bind fun x7 => (ast e2.2 114 512 75 (x7 + e2.1)).bind fun m8 => some (e2.1, m8))
set_option maxHeartbeats 4000000 in
set_option maxRecDepth 100000 in
theorem ct_X9_recall (F : Nat) {n : Nat} (hn : 135 ≤ n) (P D : Nat) (T : Option Nat) (m : Mm)  : Ct yX9_recall cX9_recall 3 (some .int) 0 0 [.ref 113] n n m (RF P D T) (rI (RF P D T) (f_X9_recall F m)) := by
  refine Ct.ofI (own := RX9) (nm := "recall") [(0, .ref 113)] (by decide) (Nat.le_of_ble_eq_true rfl) rfl rfl rfl ?_
  unfold f_X9_recall
  refine J_iconst 0 dX9_recall_0 (by decide) ?_
  refine J_istore_n 1 [(1, .int 0), (0, .ref 113)] dX9_recall_1 rfl (by decide) rfl ?_
  refine J_iconst 0 dX9_recall_2 (by decide) ?_
  refine J_istore_n 2 [(2, .int 0), (1, .int 0), (0, .ref 113)] dX9_recall_3 rfl (by decide) rfl ?_
  refine J_lv [2, 1, 0] rfl ?_
  refine J_loop (pc := 4) (fun t1 : Int32 × Int32 × Mm => [(0, .ref 113), (1, .int t1.1), (2, .int t1.2.1)]) (fun t1 => t1.2.2) (fun _ => 46) (fun e2 => [(0, .ref 113), (1, .int e2.1)]) (fun _ => []) (fun e2 => e2.2) ?_ (fun t1 k1 hBt1 hXt1 => ?_) F ((0, 0, m))
  · refine fun e2 => ?_
    refine J_aload_n 0 0 113 dX9_recall_46 rfl rfl ?_
    refine J_getR 113 9 0 114 dX9_recall_47 fl_9_7 rfl rfl (Nat.lt_of_lt_of_le (Nat.le_of_ble_eq_true rfl) hn) rfl ?_
    refine J_bipush 75 dX9_recall_50 (by decide) ?_
    refine J_dup2 dX9_recall_52 rfl rfl ?_
    refine J_iald 114 512 dX9_recall_53 rfl (Nat.lt_of_lt_of_le (Nat.le_of_ble_eq_true rfl) hn) (fun x7 => ?_)
    refine J_iload_n 1 1 e2.1 dX9_recall_54 rfl rfl ?_
    refine J_iadd dX9_recall_55 ?_
    refine J_iast 114 512 dX9_recall_56 rfl (Nat.lt_of_lt_of_le (Nat.le_of_ble_eq_true rfl) hn) (fun m8 => ?_)
    refine J_iload_n 1 1 e2.1 dX9_recall_57 rfl rfl ?_
    exact J_iretI dX9_recall_58 rfl rfl
  · unfold b_X9_recall_4
    refine J_iload_n 2 2 t1.2.1 dX9_recall_4 rfl rfl ?_
    refine J_aload_n 0 0 113 dX9_recall_5 rfl rfl ?_
    refine J_getR 113 9 0 114 dX9_recall_6 fl_9_7 rfl rfl (Nat.lt_of_lt_of_le (Nat.le_of_ble_eq_true rfl) hn) rfl ?_
    refine J_bipush 76 dX9_recall_9 (by decide) ?_
    refine J_iald 114 512 dX9_recall_11 rfl (Nat.lt_of_lt_of_le (Nat.le_of_ble_eq_true rfl) hn) (fun x3 => ?_)
    refine J_icmp_ge 46 dX9_recall_12 (by decide) ?_ ?_
    · exact J_lv [0, 1] rfl (hXt1 ((t1.1, t1.2.2)))
    · refine J_aload_n 0 0 113 dX9_recall_15 rfl rfl ?_
      refine J_getR 113 9 0 114 dX9_recall_16 fl_9_7 rfl rfl (Nat.lt_of_lt_of_le (Nat.le_of_ble_eq_true rfl) hn) rfl ?_
      refine J_bipush 47 dX9_recall_19 (by decide) ?_
      refine J_iload_n 2 2 t1.2.1 dX9_recall_21 rfl rfl ?_
      refine J_iadd dX9_recall_22 ?_
      refine J_iald 114 512 dX9_recall_23 rfl (Nat.lt_of_lt_of_le (Nat.le_of_ble_eq_true rfl) hn) (fun x4 => ?_)
      refine J_seqJ 40 (fun y5 : Int32 × Mm => [(0, .ref 113), (1, .int y5.1), (2, .int t1.2.1)]) (fun y5 => []) (fun y5 => y5.2) (fun y5 => ?_) (fun k1 hEy5 => ?_)
      · refine J_iinc 2 2 [(2, .int (t1.2.1 + 1)), (0, .ref 113), (1, .int y5.1)] t1.2.1 (t1.2.1 + 1) dX9_recall_40 rfl rfl (by decide) rfl ?_
        refine J_goto 4 dX9_recall_43 (by decide) ?_
        exact J_lv [1, 2, 0] rfl (hBt1 (y5.1, t1.2.1 + 1, y5.2))
      · refine J_if_ne 40 dX9_recall_24 (by decide) ?_ ?_
        · exact J_lv [0, 1, 2] rfl (hEy5 (t1.1, t1.2.2))
        · refine J_aload_n 0 0 113 dX9_recall_27 rfl rfl ?_
          refine J_getR 113 9 0 114 dX9_recall_28 fl_9_7 rfl rfl (Nat.lt_of_lt_of_le (Nat.le_of_ble_eq_true rfl) hn) rfl ?_
          refine J_bipush 47 dX9_recall_31 (by decide) ?_
          refine J_iload_n 2 2 t1.2.1 dX9_recall_33 rfl rfl ?_
          refine J_iadd dX9_recall_34 ?_
          refine J_iconst 3 dX9_recall_35 (by decide) ?_
          refine J_iast 114 512 dX9_recall_36 rfl (Nat.lt_of_lt_of_le (Nat.le_of_ble_eq_true rfl) hn) (fun m6 => ?_)
          refine J_iinc 1 1 [(1, .int (t1.1 + 1)), (0, .ref 113), (2, .int t1.2.1)] t1.1 (t1.1 + 1) dX9_recall_37 rfl rfl (by decide) rfl ?_
          exact J_lv [1, 0, 2] rfl (hEy5 (t1.1 + 1, m6))
def f_X9_rule (m : Mm) (a1 : Int32) : Option (Int32) :=
  (f_X9_in a1.toInt64 0 4).bind fun x1 => if x1 = 0 then (some (-1)) else ((ald m 120 5 a1).bind fun x3 => some x3)
set_option maxHeartbeats 4000000 in
set_option maxRecDepth 100000 in
theorem ct_X9_rule (F : Nat) {n : Nat} (hn : 135 ≤ n) (P D : Nat) (T : Option Nat) (m : Mm) (a1 : Int32) : Ct yX9_rule cX9_rule 2 (some .int) 1 25 [.ref 113, .int a1] n n m (RF P D T) (rP m (RF P D T) (f_X9_rule m a1)) := by
  refine Ct.ofP (own := RX9) (nm := "rule") [(0, .ref 113), (1, .int a1)] (by decide) (Nat.le_of_ble_eq_true rfl) rfl rfl rfl ?_
  unfold f_X9_rule
  refine J_iload_n 1 1 a1 dX9_rule_0 rfl rfl ?_
  refine J_i2l dX9_rule_1 ?_
  refine J_lconst 0 dX9_rule_2 (by decide) ?_
  refine J_ldc2 4 dX9_rule_3 kl_9_178 ?_
  refine J_callSP 3 [.long a1.toInt64, .long 0, .long 4] dX9_rule_6 mv_X9_in mv_X9_ins lk_9_114 (ct_X9_in F hn P D T m a1.toInt64 0 4) rfl ⟨by decide, by decide⟩ (Nat.le_of_ble_eq_true rfl) (fun x1 => ?_)
  refine J_if_eq 21 dX9_rule_9 (by decide) ?_ ?_
  · refine J_iconst (-1) dX9_rule_21 (by decide) ?_
    exact J_iretP dX9_rule_22 rfl rfl
  · refine J_aload_n 0 0 113 dX9_rule_12 rfl rfl ?_
    refine J_getR 113 9 10 120 dX9_rule_13 fl_9_29 rfl rfl (Nat.lt_of_lt_of_le (Nat.le_of_ble_eq_true rfl) hn) rfl ?_
    refine J_iload_n 1 1 a1 dX9_rule_16 rfl rfl ?_
    refine J_iald 120 5 dX9_rule_17 rfl (Nat.lt_of_lt_of_le (Nat.le_of_ble_eq_true rfl) hn) (fun x3 => ?_)
    refine J_goto 22 dX9_rule_18 (by decide) ?_
    exact J_iretP dX9_rule_22 rfl rfl
def f_X9_run (F : Nat) (m : Mm) (a1 : Int32) (a2 : Int32) : Option (Int32 × Mm) :=
  (f_X9_in a1.toInt64 1 120).bind fun x1 => if x1 = 0 then (some ((-1), m)) else ((f_X9_in a2.toInt64 0 6).bind fun x3 => if x3 = 0 then (some ((-1), m)) else ((f_X9_copies F m 384 0).bind fun m6 => (f_X9_runs F m6 a1).bind fun m8 => if a2 = 0 then ((f_X9_untilSunk m8).bind fun x9 => some (x9, m8)) else (if a2 = 1 then ((ald m8 114 512 456).bind fun x11 => some (x11, m8)) else (if a2 = 2 then ((f_X9_allOf F m8 384).bind fun x12 => some (x12, m8)) else (if a2 = 3 then ((f_X9_listOf F m8 384).bind fun x14 => some (x14, m8)) else (if a2 = 4 then ((f_X9_trimOf F m8 384).bind fun x16 => some (x16, m8)) else (if a2 = 5 then ((ald m8 114 512 459).bind fun x18 => (ald m8 114 512 75).bind fun x19 => some (x18 - x19, m8)) else (some (m8 113 29, m8)))))))))
set_option maxHeartbeats 4000000 in
set_option maxRecDepth 100000 in
theorem ct_X9_run (F : Nat) {n : Nat} (hn : 135 ≤ n) (P D : Nat) (T : Option Nat) (m : Mm) (a1 : Int32) (a2 : Int32) : Ct yX9_run cX9_run 3 (some .int) 6 128 [.ref 113, .int a1, .int a2] n n m (RF P D T) (rI (RF P D T) (f_X9_run F m a1 a2)) := by
  refine Ct.ofI (own := RX9) (nm := "run") [(0, .ref 113), (1, .int a1), (2, .int a2)] (by decide) (Nat.le_of_ble_eq_true rfl) rfl rfl rfl ?_
  unfold f_X9_run
  refine J_iload_n 1 1 a1 dX9_run_0 rfl rfl ?_
  refine J_i2l dX9_run_1 ?_
  refine J_lconst 1 dX9_run_2 (by decide) ?_
  refine J_ldc2 120 dX9_run_3 kl_9_256 ?_
  refine J_callSP 3 [.long a1.toInt64, .long 1, .long 120] dX9_run_6 mv_X9_in mv_X9_ins lk_9_114 (ct_X9_in F hn P D T m a1.toInt64 1 120) rfl ⟨by decide, by decide⟩ (Nat.le_of_ble_eq_true rfl) (fun x1 => ?_)
  refine J_if_eq 24 dX9_run_9 (by decide) ?_ ?_
  · refine J_iconst (-1) dX9_run_24 (by decide) ?_
    exact J_iretI dX9_run_25 rfl rfl
  · refine J_iload_n 2 2 a2 dX9_run_12 rfl rfl ?_
    refine J_i2l dX9_run_13 ?_
    refine J_lconst 0 dX9_run_14 (by decide) ?_
    refine J_ldc2 6 dX9_run_15 kl_9_229 ?_
    refine J_callSP 3 [.long a2.toInt64, .long 0, .long 6] dX9_run_18 mv_X9_in mv_X9_ins lk_9_114 (ct_X9_in F hn P D T m a2.toInt64 0 6) rfl ⟨by decide, by decide⟩ (Nat.le_of_ble_eq_true rfl) (fun x3 => ?_)
    refine J_if_ne 26 dX9_run_21 (by decide) ?_ ?_
    · refine J_aload_n 0 0 113 dX9_run_26 rfl rfl ?_
      refine J_sipush 384 dX9_run_27 (by decide) ?_
      refine J_iconst 0 dX9_run_30 (by decide) ?_
      refine J_callVV 113 9 2 [.int 384, .int 0] dX9_run_31 mv_X9_copies mv_X9_copiesv lk_9_261 (ct_X9_copies F hn P D T m 384 0) rfl rfl (by decide) rfl (Nat.lt_of_lt_of_le (Nat.le_of_ble_eq_true rfl) hn) ⟨by decide, by decide⟩ (Nat.le_of_ble_eq_true rfl) (fun m6 => ?_)
      refine J_aload_n 0 0 113 dX9_run_34 rfl rfl ?_
      refine J_iload_n 1 1 a1 dX9_run_35 rfl rfl ?_
      refine J_callVV 113 9 1 [.int a1] dX9_run_36 mv_X9_runs mv_X9_runsv lk_9_277 (ct_X9_runs F hn P D T m6 a1) rfl rfl (by decide) rfl (Nat.lt_of_lt_of_le (Nat.le_of_ble_eq_true rfl) hn) ⟨by decide, by decide⟩ (Nat.le_of_ble_eq_true rfl) (fun m8 => ?_)
      refine J_iload_n 2 2 a2 dX9_run_39 rfl rfl ?_
      refine J_split (c1 := 0) (fun hs40_0 => ?_) (fun hs40_0 => ?_)
      · refine J_tsIn 80 hs40_0 dX9_run_40 (by decide) (by decide) rfl (by decide) ?_
        refine J_aload_n 0 0 113 dX9_run_80 rfl rfl ?_
        refine J_callVP 113 9 0 [] dX9_run_81 mv_X9_untilSunk mv_X9_untilSunkv lk_9_280 (ct_X9_untilSunk F hn P D T m8) rfl rfl (by decide) rfl (Nat.lt_of_lt_of_le (Nat.le_of_ble_eq_true rfl) hn) ⟨by decide, by decide⟩ (Nat.le_of_ble_eq_true rfl) (fun x9 => ?_)
        exact J_iretI dX9_run_84 rfl rfl
      · refine J_split (c1 := 1) (fun hs40_1 => ?_) (fun hs40_1 => ?_)
        · refine J_tsIn 85 hs40_1 dX9_run_40 (by decide) (by decide) rfl (by decide) ?_
          refine J_aload_n 0 0 113 dX9_run_85 rfl rfl ?_
          refine J_getR 113 9 0 114 dX9_run_86 fl_9_7 rfl rfl (Nat.lt_of_lt_of_le (Nat.le_of_ble_eq_true rfl) hn) rfl ?_
          refine J_sipush 456 dX9_run_89 (by decide) ?_
          refine J_iald 114 512 dX9_run_92 rfl (Nat.lt_of_lt_of_le (Nat.le_of_ble_eq_true rfl) hn) (fun x11 => ?_)
          exact J_iretI dX9_run_93 rfl rfl
        · refine J_split (c1 := 2) (fun hs40_2 => ?_) (fun hs40_2 => ?_)
          · refine J_tsIn 94 hs40_2 dX9_run_40 (by decide) (by decide) rfl (by decide) ?_
            refine J_aload_n 0 0 113 dX9_run_94 rfl rfl ?_
            refine J_sipush 384 dX9_run_95 (by decide) ?_
            refine J_callVP 113 9 1 [.int 384] dX9_run_98 mv_X9_allOf mv_X9_allOfv lk_9_202 (ct_X9_allOf F hn P D T m8 384) rfl rfl (by decide) rfl (Nat.lt_of_lt_of_le (Nat.le_of_ble_eq_true rfl) hn) ⟨by decide, by decide⟩ (Nat.le_of_ble_eq_true rfl) (fun x12 => ?_)
            exact J_iretI dX9_run_101 rfl rfl
          · refine J_split (c1 := 3) (fun hs40_3 => ?_) (fun hs40_3 => ?_)
            · refine J_tsIn 102 hs40_3 dX9_run_40 (by decide) (by decide) rfl (by decide) ?_
              refine J_aload_n 0 0 113 dX9_run_102 rfl rfl ?_
              refine J_sipush 384 dX9_run_103 (by decide) ?_
              refine J_callVP 113 9 1 [.int 384] dX9_run_106 mv_X9_listOf mv_X9_listOfv lk_9_205 (ct_X9_listOf F hn P D T m8 384) rfl rfl (by decide) rfl (Nat.lt_of_lt_of_le (Nat.le_of_ble_eq_true rfl) hn) ⟨by decide, by decide⟩ (Nat.le_of_ble_eq_true rfl) (fun x14 => ?_)
              exact J_iretI dX9_run_109 rfl rfl
            · refine J_split (c1 := 4) (fun hs40_4 => ?_) (fun hs40_4 => ?_)
              · refine J_tsIn 110 hs40_4 dX9_run_40 (by decide) (by decide) rfl (by decide) ?_
                refine J_aload_n 0 0 113 dX9_run_110 rfl rfl ?_
                refine J_sipush 384 dX9_run_111 (by decide) ?_
                refine J_callVP 113 9 1 [.int 384] dX9_run_114 mv_X9_trimOf mv_X9_trimOfv lk_9_208 (ct_X9_trimOf F hn P D T m8 384) rfl rfl (by decide) rfl (Nat.lt_of_lt_of_le (Nat.le_of_ble_eq_true rfl) hn) ⟨by decide, by decide⟩ (Nat.le_of_ble_eq_true rfl) (fun x16 => ?_)
                exact J_iretI dX9_run_117 rfl rfl
              · refine J_split (c1 := 5) (fun hs40_5 => ?_) (fun hs40_5 => ?_)
                · refine J_tsIn 118 hs40_5 dX9_run_40 (by decide) (by decide) rfl (by decide) ?_
                  refine J_aload_n 0 0 113 dX9_run_118 rfl rfl ?_
                  refine J_getR 113 9 0 114 dX9_run_119 fl_9_7 rfl rfl (Nat.lt_of_lt_of_le (Nat.le_of_ble_eq_true rfl) hn) rfl ?_
                  refine J_sipush 459 dX9_run_122 (by decide) ?_
                  refine J_iald 114 512 dX9_run_125 rfl (Nat.lt_of_lt_of_le (Nat.le_of_ble_eq_true rfl) hn) (fun x18 => ?_)
                  refine J_aload_n 0 0 113 dX9_run_126 rfl rfl ?_
                  refine J_getR 113 9 0 114 dX9_run_127 fl_9_7 rfl rfl (Nat.lt_of_lt_of_le (Nat.le_of_ble_eq_true rfl) hn) rfl ?_
                  refine J_bipush 75 dX9_run_130 (by decide) ?_
                  refine J_iald 114 512 dX9_run_132 rfl (Nat.lt_of_lt_of_le (Nat.le_of_ble_eq_true rfl) hn) (fun x19 => ?_)
                  refine J_isub dX9_run_133 ?_
                  exact J_iretI dX9_run_134 rfl rfl
                · refine J_tsOut 135 dX9_run_40 (ts_out [0, 1, 2, 3, 4, 5] (by decide) (by simp only [List.mem_cons, List.not_mem_nil, or_false, forall_eq_or_imp, forall_eq]; exact ⟨hs40_0, hs40_1, hs40_2, hs40_3, hs40_4, hs40_5⟩)) (by decide) ?_
                  refine J_aload_n 0 0 113 dX9_run_135 rfl rfl ?_
                  refine J_getI 113 9 29 dX9_run_136 fl_9_274 rfl rfl (Nat.lt_of_lt_of_le (Nat.le_of_ble_eq_true rfl) hn) ?_
                  exact J_iretI dX9_run_139 rfl rfl
    · refine J_iconst (-1) dX9_run_24 (by decide) ?_
      exact J_iretI dX9_run_25 rfl rfl
def b_X9_sheet_40 (a1 : Int32) (t5 : Int32 × Mm) : Option ((Int32 × Mm) ⊕ (Mm)) :=
  if (40 : Int32) ≤ t5.1 then (some (Sum.inr t5.2)) else ((ast t5.2 134 160 (((40 : Int32) * a1) + t5.1) 0).bind fun m7 => some (Sum.inl (t5.1 + 1, m7)))
def f_X9_sheet (F : Nat) (m : Mm) (a1 : Int32) (a2 : Int32) (a3 : Int32) : Option (Int32 × Mm) :=
  (f_X9_isSheet a1 a2).bind fun x1 => if x1 = 0 then (some ((-1), m)) else (if a3 ≤ (40 : Int32) then (if 0 ≤ a3 then ((ast m 132 4 a1 a2).bind fun m3 => (ast m3 133 4 a1 a3).bind fun m4 => (iter F (b_X9_sheet_40 a1) ((0, m4) : Int32 × Mm)).bind (fun e6 : Mm => some (1, e6))) else (some ((-14), m))) else (some ((-1), m)))
set_option maxHeartbeats 4000000 in
set_option maxRecDepth 100000 in
theorem ct_X9_sheet (F : Nat) {n : Nat} (hn : 135 ≤ n) (P D : Nat) (T : Option Nat) (m : Mm) (a1 : Int32) (a2 : Int32) (a3 : Int32) : Ct yX9_sheet cX9_sheet 5 (some .int) 2 46 [.ref 113, .int a1, .int a2, .int a3] n n m (RF P D T) (rI (RF P D T) (f_X9_sheet F m a1 a2 a3)) := by
  refine Ct.ofI (own := RX9) (nm := "sheet") [(0, .ref 113), (1, .int a1), (2, .int a2), (3, .int a3)] (by decide) (Nat.le_of_ble_eq_true rfl) rfl rfl rfl ?_
  unfold f_X9_sheet
  refine J_iload_n 1 1 a1 dX9_sheet_0 rfl rfl ?_
  refine J_iload_n 2 2 a2 dX9_sheet_1 rfl rfl ?_
  refine J_callSP 2 [.int a1, .int a2] dX9_sheet_2 mv_X9_isSheet mv_X9_isSheets lk_9_356 (ct_X9_isSheet F hn P D T m a1 a2) rfl ⟨by decide, by decide⟩ (Nat.le_of_ble_eq_true rfl) (fun x1 => ?_)
  refine J_if_eq 14 dX9_sheet_5 (by decide) ?_ ?_
  · refine J_iconst (-1) dX9_sheet_14 (by decide) ?_
    exact J_iretI dX9_sheet_15 rfl rfl
  · refine J_iload_n 3 3 a3 dX9_sheet_8 rfl rfl ?_
    refine J_bipush 40 dX9_sheet_9 (by decide) ?_
    refine J_icmp_le 16 dX9_sheet_11 (by decide) ?_ ?_
    · refine J_iload_n 3 3 a3 dX9_sheet_16 rfl rfl ?_
      refine J_if_ge 23 dX9_sheet_17 (by decide) ?_ ?_
      · refine J_aload_n 0 0 113 dX9_sheet_23 rfl rfl ?_
        refine J_getR 113 9 38 132 dX9_sheet_24 fl_9_65 rfl rfl (Nat.lt_of_lt_of_le (Nat.le_of_ble_eq_true rfl) hn) rfl ?_
        refine J_iload_n 1 1 a1 dX9_sheet_27 rfl rfl ?_
        refine J_iload_n 2 2 a2 dX9_sheet_28 rfl rfl ?_
        refine J_iast 132 4 dX9_sheet_29 rfl (Nat.lt_of_lt_of_le (Nat.le_of_ble_eq_true rfl) hn) (fun m3 => ?_)
        refine J_aload_n 0 0 113 dX9_sheet_30 rfl rfl ?_
        refine J_getR 113 9 39 133 dX9_sheet_31 fl_9_68 rfl rfl (Nat.lt_of_lt_of_le (Nat.le_of_ble_eq_true rfl) hn) rfl ?_
        refine J_iload_n 1 1 a1 dX9_sheet_34 rfl rfl ?_
        refine J_iload_n 3 3 a3 dX9_sheet_35 rfl rfl ?_
        refine J_iast 133 4 dX9_sheet_36 rfl (Nat.lt_of_lt_of_le (Nat.le_of_ble_eq_true rfl) hn) (fun m4 => ?_)
        refine J_iconst 0 dX9_sheet_37 (by decide) ?_
        refine J_istore 4 [(4, .int 0), (0, .ref 113), (1, .int a1), (2, .int a2), (3, .int a3)] dX9_sheet_38 (by decide) rfl ?_
        refine J_lv [1, 2, 0] rfl ?_
        refine J_loop (pc := 40) (fun t5 : Int32 × Mm => [(0, .ref 113), (1, .int a1), (4, .int t5.1)]) (fun t5 => t5.2) (fun _ => 66) (fun e6 => []) (fun _ => []) (fun e6 => e6) ?_ (fun t5 k1 hBt5 hXt5 => ?_) F ((0, m4))
        · refine fun e6 => ?_
          refine J_iconst 1 dX9_sheet_66 (by decide) ?_
          exact J_iretI dX9_sheet_67 rfl rfl
        · unfold b_X9_sheet_40
          refine J_iload 4 2 t5.1 dX9_sheet_40 rfl ?_
          refine J_bipush 40 dX9_sheet_42 (by decide) ?_
          refine J_icmp_ge 66 dX9_sheet_44 (by decide) ?_ ?_
          · exact J_lv [] rfl (hXt5 t5.2)
          · refine J_aload_n 0 0 113 dX9_sheet_47 rfl rfl ?_
            refine J_getR 113 9 40 134 dX9_sheet_48 fl_9_71 rfl rfl (Nat.lt_of_lt_of_le (Nat.le_of_ble_eq_true rfl) hn) rfl ?_
            refine J_bipush 40 dX9_sheet_51 (by decide) ?_
            refine J_iload_n 1 1 a1 dX9_sheet_53 rfl rfl ?_
            refine J_imul dX9_sheet_54 ?_
            refine J_iload 4 2 t5.1 dX9_sheet_55 rfl ?_
            refine J_iadd dX9_sheet_57 ?_
            refine J_iconst 0 dX9_sheet_58 (by decide) ?_
            refine J_iast 134 160 dX9_sheet_59 rfl (Nat.lt_of_lt_of_le (Nat.le_of_ble_eq_true rfl) hn) (fun m7 => ?_)
            refine J_iinc 4 2 [(4, .int (t5.1 + 1)), (0, .ref 113), (1, .int a1)] t5.1 (t5.1 + 1) dX9_sheet_60 rfl rfl (by decide) rfl ?_
            refine J_goto 40 dX9_sheet_63 (by decide) ?_
            exact J_lv [1, 2, 0] rfl (hBt5 (t5.1 + 1, m7))
      · refine J_bipush (-14) dX9_sheet_20 (by decide) ?_
        exact J_iretI dX9_sheet_22 rfl rfl
    · refine J_iconst (-1) dX9_sheet_14 (by decide) ?_
      exact J_iretI dX9_sheet_15 rfl rfl
def f_X9_sound (m : Mm) (a1 : Int32) : Option (Int32 × Mm) :=
  (f_X9_in a1.toInt64 0 99).bind fun x1 => if x1 = 0 then (some ((-1), m)) else (if (m 113 36) = (8 : Int32) then (some ((-3), m)) else ((ast m 131 8 (m 113 36) a1).bind fun m3 => letv (up2 m3 113 36 ((m3 113 36) + (1 : Int32))) fun m4 => some (m4 113 36, m4)))
set_option maxHeartbeats 4000000 in
set_option maxRecDepth 100000 in
theorem ct_X9_sound (F : Nat) {n : Nat} (hn : 135 ≤ n) (P D : Nat) (T : Option Nat) (m : Mm) (a1 : Int32) : Ct yX9_sound cX9_sound 2 (some .int) 1 25 [.ref 113, .int a1] n n m (RF P D T) (rI (RF P D T) (f_X9_sound m a1)) := by
  refine Ct.ofI (own := RX9) (nm := "sound") [(0, .ref 113), (1, .int a1)] (by decide) (Nat.le_of_ble_eq_true rfl) rfl rfl rfl ?_
  unfold f_X9_sound
  refine J_iload_n 1 1 a1 dX9_sound_0 rfl rfl ?_
  refine J_i2l dX9_sound_1 ?_
  refine J_lconst 0 dX9_sound_2 (by decide) ?_
  refine J_ldc2 99 dX9_sound_3 kl_9_348 ?_
  refine J_callSP 3 [.long a1.toInt64, .long 0, .long 99] dX9_sound_6 mv_X9_in mv_X9_ins lk_9_114 (ct_X9_in F hn P D T m a1.toInt64 0 99) rfl ⟨by decide, by decide⟩ (Nat.le_of_ble_eq_true rfl) (fun x1 => ?_)
  refine J_if_ne 14 dX9_sound_9 (by decide) ?_ ?_
  · refine J_aload_n 0 0 113 dX9_sound_14 rfl rfl ?_
    refine J_getI 113 9 36 dX9_sound_15 fl_9_350 rfl rfl (Nat.lt_of_lt_of_le (Nat.le_of_ble_eq_true rfl) hn) ?_
    refine J_bipush 8 dX9_sound_18 (by decide) ?_
    refine J_icmp_ne 26 dX9_sound_20 (by decide) ?_ ?_
    · refine J_aload_n 0 0 113 dX9_sound_26 rfl rfl ?_
      refine J_getR 113 9 37 131 dX9_sound_27 fl_9_62 rfl rfl (Nat.lt_of_lt_of_le (Nat.le_of_ble_eq_true rfl) hn) rfl ?_
      refine J_aload_n 0 0 113 dX9_sound_30 rfl rfl ?_
      refine J_getI 113 9 36 dX9_sound_31 fl_9_350 rfl rfl (Nat.lt_of_lt_of_le (Nat.le_of_ble_eq_true rfl) hn) ?_
      refine J_iload_n 1 1 a1 dX9_sound_34 rfl rfl ?_
      refine J_iast 131 8 dX9_sound_35 rfl (Nat.lt_of_lt_of_le (Nat.le_of_ble_eq_true rfl) hn) (fun m3 => ?_)
      refine J_aload_n 0 0 113 dX9_sound_36 rfl rfl ?_
      refine J_dup dX9_sound_37 rfl ?_
      refine J_getI 113 9 36 dX9_sound_38 fl_9_350 rfl rfl (Nat.lt_of_lt_of_le (Nat.le_of_ble_eq_true rfl) hn) ?_
      refine J_iconst 1 dX9_sound_41 (by decide) ?_
      refine J_iadd dX9_sound_42 ?_
      refine J_putI 113 9 36 dX9_sound_43 fl_9_350 rfl rfl (Nat.lt_of_lt_of_le (Nat.le_of_ble_eq_true rfl) hn) rfl rfl rfl (fun m4 => ?_)
      refine J_aload_n 0 0 113 dX9_sound_46 rfl rfl ?_
      refine J_getI 113 9 36 dX9_sound_47 fl_9_350 rfl rfl (Nat.lt_of_lt_of_le (Nat.le_of_ble_eq_true rfl) hn) ?_
      exact J_iretI dX9_sound_50 rfl rfl
    · refine J_bipush (-3) dX9_sound_23 (by decide) ?_
      exact J_iretI dX9_sound_25 rfl rfl
  · refine J_iconst (-1) dX9_sound_12 (by decide) ?_
    exact J_iretI dX9_sound_13 rfl rfl

theorem fl_9_102 : FL RX9 102 9 8 := ⟨by decide, by decide, tb 1030 (by decide +kernel) rfl⟩
theorem fl_9_13 : FL RX9 13 9 1 := ⟨by decide, by decide, tb 1023 (by decide +kernel) rfl⟩
theorem fl_9_26 : FL RX9 26 9 9 := ⟨by decide, by decide, tb 1031 (by decide +kernel) rfl⟩
theorem fl_9_41 : FL RX9 41 9 18 := ⟨by decide, by decide, tb 1040 (by decide +kernel) rfl⟩
theorem fl_9_90 : FL RX9 90 9 17 := ⟨by decide, by decide, tb 1039 (by decide +kernel) rfl⟩
theorem fl_9_96 : FL RX9 96 9 4 := ⟨by decide, by decide, tb 1026 (by decide +kernel) rfl⟩
theorem fl_9_99 : FL RX9 99 9 6 := ⟨by decide, by decide, tb 1028 (by decide +kernel) rfl⟩
theorem lk_9_105 : Cond.methodLink RX9 105 yX9_sees ∈ TBg := tb 999 (by decide +kernel) rfl
theorem lk_9_231 : Cond.methodLink RX9 231 yX9_comesIn ∈ TBg := tb 1257 (by decide +kernel) rfl
theorem lk_9_247 : Cond.methodLink RX9 247 yX9_aTon ∈ TBg := tb 1310 (by decide +kernel) rfl
theorem lk_9_250 : Cond.methodLink RX9 250 yX9_ordersGo ∈ TBg := tb 1286 (by decide +kernel) rfl
theorem lk_9_253 : Cond.methodLink RX9 253 yX9_waterGoes ∈ TBg := tb 1306 (by decide +kernel) rfl
theorem lk_9_261 : Cond.methodLink RX9 261 yX9_copies ∈ TBg := tb 1322 (by decide +kernel) rfl
theorem mv_X9_aTon : MV yX9_aTon cX9_aTon 9 none 2 := ⟨tb 1313 (by decide +kernel) rfl, tb 13 (by decide +kernel) rfl, by decide +kernel⟩
theorem mv_X9_aTonv : Cond.instanceMethod yX9_aTon ∈ TBg ∧ Cond.selects yX9_aTon.cls yX9_aTon yX9_aTon ∈ TBg := ⟨tb 1312 (by decide +kernel) rfl, tbP (k := 42) 75 (by decide +kernel) rfl⟩
theorem mv_X9_comesIn : MV yX9_comesIn cX9_comesIn 6 (some .int) 2 := ⟨tb 1260 (by decide +kernel) rfl, tb 13 (by decide +kernel) rfl, by decide +kernel⟩
theorem mv_X9_comesInv : Cond.instanceMethod yX9_comesIn ∈ TBg ∧ Cond.selects yX9_comesIn.cls yX9_comesIn yX9_comesIn ∈ TBg := ⟨tb 1259 (by decide +kernel) rfl, tbP (k := 42) 66 (by decide +kernel) rfl⟩
theorem mv_X9_copies : MV yX9_copies cX9_copies 4 none 2 := ⟨tb 1325 (by decide +kernel) rfl, tb 13 (by decide +kernel) rfl, by decide +kernel⟩
theorem mv_X9_copiesv : Cond.instanceMethod yX9_copies ∈ TBg ∧ Cond.selects yX9_copies.cls yX9_copies yX9_copies ∈ TBg := ⟨tb 1324 (by decide +kernel) rfl, tbP (k := 42) 76 (by decide +kernel) rfl⟩
theorem mv_X9_ordersGo : MV yX9_ordersGo cX9_ordersGo 3 none 1 := ⟨tb 1289 (by decide +kernel) rfl, tb 13 (by decide +kernel) rfl, by decide +kernel⟩
theorem mv_X9_ordersGov : Cond.instanceMethod yX9_ordersGo ∈ TBg ∧ Cond.selects yX9_ordersGo.cls yX9_ordersGo yX9_ordersGo ∈ TBg := ⟨tb 1288 (by decide +kernel) rfl, tbP (k := 42) 69 (by decide +kernel) rfl⟩
theorem mv_X9_sees : MV yX9_sees cX9_sees 2 none 1 := ⟨tb 1002 (by decide +kernel) rfl, tb 13 (by decide +kernel) rfl, by decide +kernel⟩
theorem mv_X9_seesv : Cond.instanceMethod yX9_sees ∈ TBg ∧ Cond.selects yX9_sees.cls yX9_sees yX9_sees ∈ TBg := ⟨tb 1001 (by decide +kernel) rfl, tbP (k := 42) 45 (by decide +kernel) rfl⟩
theorem mv_X9_waterGoes : MV yX9_waterGoes cX9_waterGoes 5 none 1 := ⟨tb 1309 (by decide +kernel) rfl, tb 13 (by decide +kernel) rfl, by decide +kernel⟩
theorem mv_X9_waterGoesv : Cond.instanceMethod yX9_waterGoes ∈ TBg ∧ Cond.selects yX9_waterGoes.cls yX9_waterGoes yX9_waterGoes ∈ TBg := ⟨tb 1308 (by decide +kernel) rfl, tbP (k := 42) 74 (by decide +kernel) rfl⟩
theorem dX9_waterGoes_0 : decode cX9_waterGoes 0 = .ok (.iconst 0, 1) := by decide +kernel
theorem dX9_waterGoes_1 : decode cX9_waterGoes 1 = .ok (.istore_n 2, 1) := by decide +kernel
theorem dX9_waterGoes_2 : decode cX9_waterGoes 2 = .ok (.iload_n 2, 1) := by decide +kernel
theorem dX9_waterGoes_3 : decode cX9_waterGoes 3 = .ok (.aload_n 0, 1) := by decide +kernel
theorem dX9_waterGoes_4 : decode cX9_waterGoes 4 = .ok (.getfield 99, 3) := by decide +kernel
theorem dX9_waterGoes_7 : decode cX9_waterGoes 7 = .ok (.if_icmp .ge 35, 3) := by decide +kernel
theorem dX9_waterGoes_10 : decode cX9_waterGoes 10 = .ok (.aload_n 0, 1) := by decide +kernel
theorem dX9_waterGoes_11 : decode cX9_waterGoes 11 = .ok (.getfield 7, 3) := by decide +kernel
theorem dX9_waterGoes_14 : decode cX9_waterGoes 14 = .ok (.iload_n 1, 1) := by decide +kernel
theorem dX9_waterGoes_15 : decode cX9_waterGoes 15 = .ok (.iconst 0, 1) := by decide +kernel
theorem dX9_waterGoes_16 : decode cX9_waterGoes 16 = .ok (.iadd, 1) := by decide +kernel
theorem dX9_waterGoes_17 : decode cX9_waterGoes 17 = .ok (.aload_n 0, 1) := by decide +kernel
theorem dX9_waterGoes_18 : decode cX9_waterGoes 18 = .ok (.getfield 23, 3) := by decide +kernel
theorem dX9_waterGoes_21 : decode cX9_waterGoes 21 = .ok (.iconst 3, 1) := by decide +kernel
theorem dX9_waterGoes_22 : decode cX9_waterGoes 22 = .ok (.iload_n 2, 1) := by decide +kernel
theorem dX9_waterGoes_23 : decode cX9_waterGoes 23 = .ok (.imul, 1) := by decide +kernel
theorem dX9_waterGoes_24 : decode cX9_waterGoes 24 = .ok (.iaload, 1) := by decide +kernel
theorem dX9_waterGoes_25 : decode cX9_waterGoes 25 = .ok (.iadd, 1) := by decide +kernel
theorem dX9_waterGoes_26 : decode cX9_waterGoes 26 = .ok (.dup2, 1) := by decide +kernel
theorem dX9_waterGoes_27 : decode cX9_waterGoes 27 = .ok (.iaload, 1) := by decide +kernel
theorem dX9_waterGoes_28 : decode cX9_waterGoes 28 = .ok (.aload_n 0, 1) := by decide +kernel
theorem dX9_waterGoes_29 : decode cX9_waterGoes 29 = .ok (.iload_n 1, 1) := by decide +kernel
theorem dX9_waterGoes_30 : decode cX9_waterGoes 30 = .ok (.iload_n 2, 1) := by decide +kernel
theorem dX9_waterGoes_31 : decode cX9_waterGoes 31 = .ok (.invokevirtual 231, 3) := by decide +kernel
theorem dX9_waterGoes_34 : decode cX9_waterGoes 34 = .ok (.iadd, 1) := by decide +kernel
theorem dX9_waterGoes_35 : decode cX9_waterGoes 35 = .ok (.iastore, 1) := by decide +kernel
theorem dX9_waterGoes_36 : decode cX9_waterGoes 36 = .ok (.iinc 2 1, 3) := by decide +kernel
theorem dX9_waterGoes_39 : decode cX9_waterGoes 39 = .ok (.goto (-37), 3) := by decide +kernel
theorem dX9_waterGoes_42 : decode cX9_waterGoes 42 = .ok (.iconst 0, 1) := by decide +kernel
theorem dX9_waterGoes_43 : decode cX9_waterGoes 43 = .ok (.istore_n 2, 1) := by decide +kernel
theorem dX9_waterGoes_44 : decode cX9_waterGoes 44 = .ok (.iload_n 2, 1) := by decide +kernel
theorem dX9_waterGoes_45 : decode cX9_waterGoes 45 = .ok (.aload_n 0, 1) := by decide +kernel
theorem dX9_waterGoes_46 : decode cX9_waterGoes 46 = .ok (.getfield 93, 3) := by decide +kernel
theorem dX9_waterGoes_49 : decode cX9_waterGoes 49 = .ok (.if_icmp .ge 63, 3) := by decide +kernel
theorem dX9_waterGoes_52 : decode cX9_waterGoes 52 = .ok (.aload_n 0, 1) := by decide +kernel
theorem dX9_waterGoes_53 : decode cX9_waterGoes 53 = .ok (.getfield 7, 3) := by decide +kernel
theorem dX9_waterGoes_56 : decode cX9_waterGoes 56 = .ok (.iload_n 1, 1) := by decide +kernel
theorem dX9_waterGoes_57 : decode cX9_waterGoes 57 = .ok (.bipush 8, 2) := by decide +kernel
theorem dX9_waterGoes_59 : decode cX9_waterGoes 59 = .ok (.iadd, 1) := by decide +kernel
theorem dX9_waterGoes_60 : decode cX9_waterGoes 60 = .ok (.iload_n 2, 1) := by decide +kernel
theorem dX9_waterGoes_61 : decode cX9_waterGoes 61 = .ok (.iadd, 1) := by decide +kernel
theorem dX9_waterGoes_62 : decode cX9_waterGoes 62 = .ok (.iaload, 1) := by decide +kernel
theorem dX9_waterGoes_63 : decode cX9_waterGoes 63 = .ok (.iconst 1, 1) := by decide +kernel
theorem dX9_waterGoes_64 : decode cX9_waterGoes 64 = .ok (.if_icmp .ne 7, 3) := by decide +kernel
theorem dX9_waterGoes_67 : decode cX9_waterGoes 67 = .ok (.iconst 5, 1) := by decide +kernel
theorem dX9_waterGoes_68 : decode cX9_waterGoes 68 = .ok (.goto 4, 3) := by decide +kernel
theorem dX9_waterGoes_71 : decode cX9_waterGoes 71 = .ok (.iconst 0, 1) := by decide +kernel
theorem dX9_waterGoes_72 : decode cX9_waterGoes 72 = .ok (.istore_n 3, 1) := by decide +kernel
theorem dX9_waterGoes_73 : decode cX9_waterGoes 73 = .ok (.aload_n 0, 1) := by decide +kernel
theorem dX9_waterGoes_74 : decode cX9_waterGoes 74 = .ok (.getfield 7, 3) := by decide +kernel
theorem dX9_waterGoes_77 : decode cX9_waterGoes 77 = .ok (.iload_n 1, 1) := by decide +kernel
theorem dX9_waterGoes_78 : decode cX9_waterGoes 78 = .ok (.iconst 0, 1) := by decide +kernel
theorem dX9_waterGoes_79 : decode cX9_waterGoes 79 = .ok (.iadd, 1) := by decide +kernel
theorem dX9_waterGoes_80 : decode cX9_waterGoes 80 = .ok (.iload_n 2, 1) := by decide +kernel
theorem dX9_waterGoes_81 : decode cX9_waterGoes 81 = .ok (.iadd, 1) := by decide +kernel
theorem dX9_waterGoes_82 : decode cX9_waterGoes 82 = .ok (.dup2, 1) := by decide +kernel
theorem dX9_waterGoes_83 : decode cX9_waterGoes 83 = .ok (.iaload, 1) := by decide +kernel
theorem dX9_waterGoes_84 : decode cX9_waterGoes 84 = .ok (.iload_n 3, 1) := by decide +kernel
theorem dX9_waterGoes_85 : decode cX9_waterGoes 85 = .ok (.aload_n 0, 1) := by decide +kernel
theorem dX9_waterGoes_86 : decode cX9_waterGoes 86 = .ok (.iload_n 1, 1) := by decide +kernel
theorem dX9_waterGoes_87 : decode cX9_waterGoes 87 = .ok (.iload_n 2, 1) := by decide +kernel
theorem dX9_waterGoes_88 : decode cX9_waterGoes 88 = .ok (.invokevirtual 217, 3) := by decide +kernel
theorem dX9_waterGoes_91 : decode cX9_waterGoes 91 = .ok (.if_icmp .ge 7, 3) := by decide +kernel
theorem dX9_waterGoes_94 : decode cX9_waterGoes 94 = .ok (.iload_n 3, 1) := by decide +kernel
theorem dX9_waterGoes_95 : decode cX9_waterGoes 95 = .ok (.goto 9, 3) := by decide +kernel
theorem dX9_waterGoes_98 : decode cX9_waterGoes 98 = .ok (.aload_n 0, 1) := by decide +kernel
theorem dX9_waterGoes_99 : decode cX9_waterGoes 99 = .ok (.iload_n 1, 1) := by decide +kernel
theorem dX9_waterGoes_100 : decode cX9_waterGoes 100 = .ok (.iload_n 2, 1) := by decide +kernel
theorem dX9_waterGoes_101 : decode cX9_waterGoes 101 = .ok (.invokevirtual 217, 3) := by decide +kernel
theorem dX9_waterGoes_104 : decode cX9_waterGoes 104 = .ok (.iadd, 1) := by decide +kernel
theorem dX9_waterGoes_105 : decode cX9_waterGoes 105 = .ok (.iastore, 1) := by decide +kernel
theorem dX9_waterGoes_106 : decode cX9_waterGoes 106 = .ok (.iinc 2 1, 3) := by decide +kernel
theorem dX9_waterGoes_109 : decode cX9_waterGoes 109 = .ok (.goto (-65), 3) := by decide +kernel
theorem dX9_waterGoes_112 : decode cX9_waterGoes 112 = .ok (.iconst 0, 1) := by decide +kernel
theorem dX9_waterGoes_113 : decode cX9_waterGoes 113 = .ok (.istore_n 2, 1) := by decide +kernel
theorem dX9_waterGoes_114 : decode cX9_waterGoes 114 = .ok (.iload_n 2, 1) := by decide +kernel
theorem dX9_waterGoes_115 : decode cX9_waterGoes 115 = .ok (.aload_n 0, 1) := by decide +kernel
theorem dX9_waterGoes_116 : decode cX9_waterGoes 116 = .ok (.getfield 96, 3) := by decide +kernel
theorem dX9_waterGoes_119 : decode cX9_waterGoes 119 = .ok (.if_icmp .ge 53, 3) := by decide +kernel
theorem dX9_waterGoes_122 : decode cX9_waterGoes 122 = .ok (.iconst 0, 1) := by decide +kernel
theorem dX9_waterGoes_123 : decode cX9_waterGoes 123 = .ok (.istore_n 3, 1) := by decide +kernel
theorem dX9_waterGoes_124 : decode cX9_waterGoes 124 = .ok (.iload_n 3, 1) := by decide +kernel
theorem dX9_waterGoes_125 : decode cX9_waterGoes 125 = .ok (.aload_n 0, 1) := by decide +kernel
theorem dX9_waterGoes_126 : decode cX9_waterGoes 126 = .ok (.getfield 20, 3) := by decide +kernel
theorem dX9_waterGoes_129 : decode cX9_waterGoes 129 = .ok (.bipush 6, 2) := by decide +kernel
theorem dX9_waterGoes_131 : decode cX9_waterGoes 131 = .ok (.iload_n 2, 1) := by decide +kernel
theorem dX9_waterGoes_132 : decode cX9_waterGoes 132 = .ok (.imul, 1) := by decide +kernel
theorem dX9_waterGoes_133 : decode cX9_waterGoes 133 = .ok (.iconst 3, 1) := by decide +kernel
theorem dX9_waterGoes_134 : decode cX9_waterGoes 134 = .ok (.iadd, 1) := by decide +kernel
theorem dX9_waterGoes_135 : decode cX9_waterGoes 135 = .ok (.iaload, 1) := by decide +kernel
theorem dX9_waterGoes_136 : decode cX9_waterGoes 136 = .ok (.if_icmp .ge 30, 3) := by decide +kernel
theorem dX9_waterGoes_139 : decode cX9_waterGoes 139 = .ok (.aload_n 0, 1) := by decide +kernel
theorem dX9_waterGoes_140 : decode cX9_waterGoes 140 = .ok (.getfield 7, 3) := by decide +kernel
theorem dX9_waterGoes_143 : decode cX9_waterGoes 143 = .ok (.iload_n 1, 1) := by decide +kernel
theorem dX9_waterGoes_144 : decode cX9_waterGoes 144 = .ok (.bipush 16, 2) := by decide +kernel
theorem dX9_waterGoes_146 : decode cX9_waterGoes 146 = .ok (.iadd, 1) := by decide +kernel
theorem dX9_waterGoes_147 : decode cX9_waterGoes 147 = .ok (.iload_n 2, 1) := by decide +kernel
theorem dX9_waterGoes_148 : decode cX9_waterGoes 148 = .ok (.iadd, 1) := by decide +kernel
theorem dX9_waterGoes_149 : decode cX9_waterGoes 149 = .ok (.iaload, 1) := by decide +kernel
theorem dX9_waterGoes_150 : decode cX9_waterGoes 150 = .ok (.iconst 1, 1) := by decide +kernel
theorem dX9_waterGoes_151 : decode cX9_waterGoes 151 = .ok (.if_icmp .ne 15, 3) := by decide +kernel
theorem dX9_waterGoes_154 : decode cX9_waterGoes 154 = .ok (.aload_n 0, 1) := by decide +kernel
theorem dX9_waterGoes_155 : decode cX9_waterGoes 155 = .ok (.iload_n 1, 1) := by decide +kernel
theorem dX9_waterGoes_156 : decode cX9_waterGoes 156 = .ok (.iload_n 2, 1) := by decide +kernel
theorem dX9_waterGoes_157 : decode cX9_waterGoes 157 = .ok (.invokevirtual 247, 3) := by decide +kernel
theorem dX9_waterGoes_160 : decode cX9_waterGoes 160 = .ok (.iinc 3 1, 3) := by decide +kernel
theorem dX9_waterGoes_163 : decode cX9_waterGoes 163 = .ok (.goto (-39), 3) := by decide +kernel
theorem dX9_waterGoes_166 : decode cX9_waterGoes 166 = .ok (.iinc 2 1, 3) := by decide +kernel
theorem dX9_waterGoes_169 : decode cX9_waterGoes 169 = .ok (.goto (-55), 3) := by decide +kernel
theorem dX9_waterGoes_172 : decode cX9_waterGoes 172 = .ok (.iconst 0, 1) := by decide +kernel
theorem dX9_waterGoes_173 : decode cX9_waterGoes 173 = .ok (.istore_n 2, 1) := by decide +kernel
theorem dX9_waterGoes_174 : decode cX9_waterGoes 174 = .ok (.iload_n 2, 1) := by decide +kernel
theorem dX9_waterGoes_175 : decode cX9_waterGoes 175 = .ok (.aload_n 0, 1) := by decide +kernel
theorem dX9_waterGoes_176 : decode cX9_waterGoes 176 = .ok (.getfield 102, 3) := by decide +kernel
theorem dX9_waterGoes_179 : decode cX9_waterGoes 179 = .ok (.if_icmp .ge 69, 3) := by decide +kernel
theorem dX9_waterGoes_182 : decode cX9_waterGoes 182 = .ok (.aload_n 0, 1) := by decide +kernel
theorem dX9_waterGoes_183 : decode cX9_waterGoes 183 = .ok (.getfield 7, 3) := by decide +kernel
theorem dX9_waterGoes_186 : decode cX9_waterGoes 186 = .ok (.iload_n 1, 1) := by decide +kernel
theorem dX9_waterGoes_187 : decode cX9_waterGoes 187 = .ok (.bipush 44, 2) := by decide +kernel
theorem dX9_waterGoes_189 : decode cX9_waterGoes 189 = .ok (.iadd, 1) := by decide +kernel
theorem dX9_waterGoes_190 : decode cX9_waterGoes 190 = .ok (.iload_n 2, 1) := by decide +kernel
theorem dX9_waterGoes_191 : decode cX9_waterGoes 191 = .ok (.iadd, 1) := by decide +kernel
theorem dX9_waterGoes_192 : decode cX9_waterGoes 192 = .ok (.iaload, 1) := by decide +kernel
theorem dX9_waterGoes_193 : decode cX9_waterGoes 193 = .ok (.istore_n 3, 1) := by decide +kernel
theorem dX9_waterGoes_194 : decode cX9_waterGoes 194 = .ok (.iload_n 3, 1) := by decide +kernel
theorem dX9_waterGoes_195 : decode cX9_waterGoes 195 = .ok (.bipush (-4), 2) := by decide +kernel
theorem dX9_waterGoes_197 : decode cX9_waterGoes 197 = .ok (.if_icmp .eq 45, 3) := by decide +kernel
theorem dX9_waterGoes_200 : decode cX9_waterGoes 200 = .ok (.aload_n 0, 1) := by decide +kernel
theorem dX9_waterGoes_201 : decode cX9_waterGoes 201 = .ok (.getfield 7, 3) := by decide +kernel
theorem dX9_waterGoes_204 : decode cX9_waterGoes 204 = .ok (.iload_n 1, 1) := by decide +kernel
theorem dX9_waterGoes_205 : decode cX9_waterGoes 205 = .ok (.iconst 0, 1) := by decide +kernel
theorem dX9_waterGoes_206 : decode cX9_waterGoes 206 = .ok (.iadd, 1) := by decide +kernel
theorem dX9_waterGoes_207 : decode cX9_waterGoes 207 = .ok (.iload_n 3, 1) := by decide +kernel
theorem dX9_waterGoes_208 : decode cX9_waterGoes 208 = .ok (.iadd, 1) := by decide +kernel
theorem dX9_waterGoes_209 : decode cX9_waterGoes 209 = .ok (.iaload, 1) := by decide +kernel
theorem dX9_waterGoes_210 : decode cX9_waterGoes 210 = .ok (.aload_n 0, 1) := by decide +kernel
theorem dX9_waterGoes_211 : decode cX9_waterGoes 211 = .ok (.getfield 26, 3) := by decide +kernel
theorem dX9_waterGoes_214 : decode cX9_waterGoes 214 = .ok (.iconst 2, 1) := by decide +kernel
theorem dX9_waterGoes_215 : decode cX9_waterGoes 215 = .ok (.iload_n 2, 1) := by decide +kernel
theorem dX9_waterGoes_216 : decode cX9_waterGoes 216 = .ok (.imul, 1) := by decide +kernel
theorem dX9_waterGoes_217 : decode cX9_waterGoes 217 = .ok (.iaload, 1) := by decide +kernel
theorem dX9_waterGoes_218 : decode cX9_waterGoes 218 = .ok (.isub, 1) := by decide +kernel
theorem dX9_waterGoes_219 : decode cX9_waterGoes 219 = .ok (.istore 4, 2) := by decide +kernel
theorem dX9_waterGoes_221 : decode cX9_waterGoes 221 = .ok (.aload_n 0, 1) := by decide +kernel
theorem dX9_waterGoes_222 : decode cX9_waterGoes 222 = .ok (.getfield 7, 3) := by decide +kernel
theorem dX9_waterGoes_225 : decode cX9_waterGoes 225 = .ok (.iload_n 1, 1) := by decide +kernel
theorem dX9_waterGoes_226 : decode cX9_waterGoes 226 = .ok (.iconst 0, 1) := by decide +kernel
theorem dX9_waterGoes_227 : decode cX9_waterGoes 227 = .ok (.iadd, 1) := by decide +kernel
theorem dX9_waterGoes_228 : decode cX9_waterGoes 228 = .ok (.iload_n 3, 1) := by decide +kernel
theorem dX9_waterGoes_229 : decode cX9_waterGoes 229 = .ok (.iadd, 1) := by decide +kernel
theorem dX9_waterGoes_230 : decode cX9_waterGoes 230 = .ok (.iload 4, 2) := by decide +kernel
theorem dX9_waterGoes_232 : decode cX9_waterGoes 232 = .ok (.ifCond .ge 7, 3) := by decide +kernel
theorem dX9_waterGoes_235 : decode cX9_waterGoes 235 = .ok (.iconst 0, 1) := by decide +kernel
theorem dX9_waterGoes_236 : decode cX9_waterGoes 236 = .ok (.goto 5, 3) := by decide +kernel
theorem dX9_waterGoes_239 : decode cX9_waterGoes 239 = .ok (.iload 4, 2) := by decide +kernel
theorem dX9_waterGoes_241 : decode cX9_waterGoes 241 = .ok (.iastore, 1) := by decide +kernel
theorem dX9_waterGoes_242 : decode cX9_waterGoes 242 = .ok (.iinc 2 1, 3) := by decide +kernel
theorem dX9_waterGoes_245 : decode cX9_waterGoes 245 = .ok (.goto (-71), 3) := by decide +kernel
theorem dX9_waterGoes_248 : decode cX9_waterGoes 248 = .ok (.return_, 1) := by decide +kernel
theorem dX9_aMinute_0 : decode cX9_aMinute 0 = .ok (.aload_n 0, 1) := by decide +kernel
theorem dX9_aMinute_1 : decode cX9_aMinute 1 = .ok (.getfield 7, 3) := by decide +kernel
theorem dX9_aMinute_4 : decode cX9_aMinute 4 = .ok (.iload_n 1, 1) := by decide +kernel
theorem dX9_aMinute_5 : decode cX9_aMinute 5 = .ok (.bipush 72, 2) := by decide +kernel
theorem dX9_aMinute_7 : decode cX9_aMinute 7 = .ok (.iadd, 1) := by decide +kernel
theorem dX9_aMinute_8 : decode cX9_aMinute 8 = .ok (.iaload, 1) := by decide +kernel
theorem dX9_aMinute_9 : decode cX9_aMinute 9 = .ok (.ifCond .le 17, 3) := by decide +kernel
theorem dX9_aMinute_12 : decode cX9_aMinute 12 = .ok (.aload_n 0, 1) := by decide +kernel
theorem dX9_aMinute_13 : decode cX9_aMinute 13 = .ok (.getfield 7, 3) := by decide +kernel
theorem dX9_aMinute_16 : decode cX9_aMinute 16 = .ok (.iload_n 1, 1) := by decide +kernel
theorem dX9_aMinute_17 : decode cX9_aMinute 17 = .ok (.bipush 71, 2) := by decide +kernel
theorem dX9_aMinute_19 : decode cX9_aMinute 19 = .ok (.iadd, 1) := by decide +kernel
theorem dX9_aMinute_20 : decode cX9_aMinute 20 = .ok (.dup2, 1) := by decide +kernel
theorem dX9_aMinute_21 : decode cX9_aMinute 21 = .ok (.iaload, 1) := by decide +kernel
theorem dX9_aMinute_22 : decode cX9_aMinute 22 = .ok (.iconst 1, 1) := by decide +kernel
theorem dX9_aMinute_23 : decode cX9_aMinute 23 = .ok (.iadd, 1) := by decide +kernel
theorem dX9_aMinute_24 : decode cX9_aMinute 24 = .ok (.iastore, 1) := by decide +kernel
theorem dX9_aMinute_25 : decode cX9_aMinute 25 = .ok (.return_, 1) := by decide +kernel
theorem dX9_aMinute_26 : decode cX9_aMinute 26 = .ok (.aload_n 0, 1) := by decide +kernel
theorem dX9_aMinute_27 : decode cX9_aMinute 27 = .ok (.iload_n 1, 1) := by decide +kernel
theorem dX9_aMinute_28 : decode cX9_aMinute 28 = .ok (.invokevirtual 250, 3) := by decide +kernel
theorem dX9_aMinute_31 : decode cX9_aMinute 31 = .ok (.aload_n 0, 1) := by decide +kernel
theorem dX9_aMinute_32 : decode cX9_aMinute 32 = .ok (.iload_n 1, 1) := by decide +kernel
theorem dX9_aMinute_33 : decode cX9_aMinute 33 = .ok (.invokevirtual 253, 3) := by decide +kernel
theorem dX9_aMinute_36 : decode cX9_aMinute 36 = .ok (.aload_n 0, 1) := by decide +kernel
theorem dX9_aMinute_37 : decode cX9_aMinute 37 = .ok (.getfield 7, 3) := by decide +kernel
theorem dX9_aMinute_40 : decode cX9_aMinute 40 = .ok (.iload_n 1, 1) := by decide +kernel
theorem dX9_aMinute_41 : decode cX9_aMinute 41 = .ok (.bipush 71, 2) := by decide +kernel
theorem dX9_aMinute_43 : decode cX9_aMinute 43 = .ok (.iadd, 1) := by decide +kernel
theorem dX9_aMinute_44 : decode cX9_aMinute 44 = .ok (.dup2, 1) := by decide +kernel
theorem dX9_aMinute_45 : decode cX9_aMinute 45 = .ok (.iaload, 1) := by decide +kernel
theorem dX9_aMinute_46 : decode cX9_aMinute 46 = .ok (.iconst 1, 1) := by decide +kernel
theorem dX9_aMinute_47 : decode cX9_aMinute 47 = .ok (.iadd, 1) := by decide +kernel
theorem dX9_aMinute_48 : decode cX9_aMinute 48 = .ok (.iastore, 1) := by decide +kernel
theorem dX9_aMinute_49 : decode cX9_aMinute 49 = .ok (.aload_n 0, 1) := by decide +kernel
theorem dX9_aMinute_50 : decode cX9_aMinute 50 = .ok (.iload_n 1, 1) := by decide +kernel
theorem dX9_aMinute_51 : decode cX9_aMinute 51 = .ok (.invokevirtual 105, 3) := by decide +kernel
theorem dX9_aMinute_54 : decode cX9_aMinute 54 = .ok (.return_, 1) := by decide +kernel
theorem dX9_aPump_0 : decode cX9_aPump 0 = .ok (.aload_n 0, 1) := by decide +kernel
theorem dX9_aPump_1 : decode cX9_aPump 1 = .ok (.iconst 1, 1) := by decide +kernel
theorem dX9_aPump_2 : decode cX9_aPump 2 = .ok (.bipush 9, 2) := by decide +kernel
theorem dX9_aPump_4 : decode cX9_aPump 4 = .ok (.invokevirtual 163, 3) := by decide +kernel
theorem dX9_aPump_7 : decode cX9_aPump 7 = .ok (.istore_n 1, 1) := by decide +kernel
theorem dX9_aPump_8 : decode cX9_aPump 8 = .ok (.aload_n 0, 1) := by decide +kernel
theorem dX9_aPump_9 : decode cX9_aPump 9 = .ok (.invokevirtual 167, 3) := by decide +kernel
theorem dX9_aPump_12 : decode cX9_aPump 12 = .ok (.istore_n 2, 1) := by decide +kernel
theorem dX9_aPump_13 : decode cX9_aPump 13 = .ok (.aload_n 0, 1) := by decide +kernel
theorem dX9_aPump_14 : decode cX9_aPump 14 = .ok (.getfield 118, 3) := by decide +kernel
theorem dX9_aPump_17 : decode cX9_aPump 17 = .ok (.ifCond .ne 39, 3) := by decide +kernel
theorem dX9_aPump_20 : decode cX9_aPump 20 = .ok (.aload_n 0, 1) := by decide +kernel
theorem dX9_aPump_21 : decode cX9_aPump 21 = .ok (.getfield 41, 3) := by decide +kernel
theorem dX9_aPump_24 : decode cX9_aPump 24 = .ok (.iconst 2, 1) := by decide +kernel
theorem dX9_aPump_25 : decode cX9_aPump 25 = .ok (.aload_n 0, 1) := by decide +kernel
theorem dX9_aPump_26 : decode cX9_aPump 26 = .ok (.getfield 90, 3) := by decide +kernel
theorem dX9_aPump_29 : decode cX9_aPump 29 = .ok (.imul, 1) := by decide +kernel
theorem dX9_aPump_30 : decode cX9_aPump 30 = .ok (.iload_n 1, 1) := by decide +kernel
theorem dX9_aPump_31 : decode cX9_aPump 31 = .ok (.iastore, 1) := by decide +kernel
theorem dX9_aPump_32 : decode cX9_aPump 32 = .ok (.aload_n 0, 1) := by decide +kernel
theorem dX9_aPump_33 : decode cX9_aPump 33 = .ok (.getfield 41, 3) := by decide +kernel
theorem dX9_aPump_36 : decode cX9_aPump 36 = .ok (.iconst 2, 1) := by decide +kernel
theorem dX9_aPump_37 : decode cX9_aPump 37 = .ok (.aload_n 0, 1) := by decide +kernel
theorem dX9_aPump_38 : decode cX9_aPump 38 = .ok (.getfield 90, 3) := by decide +kernel
theorem dX9_aPump_41 : decode cX9_aPump 41 = .ok (.imul, 1) := by decide +kernel
theorem dX9_aPump_42 : decode cX9_aPump 42 = .ok (.iconst 1, 1) := by decide +kernel
theorem dX9_aPump_43 : decode cX9_aPump 43 = .ok (.iadd, 1) := by decide +kernel
theorem dX9_aPump_44 : decode cX9_aPump 44 = .ok (.iload_n 2, 1) := by decide +kernel
theorem dX9_aPump_45 : decode cX9_aPump 45 = .ok (.iastore, 1) := by decide +kernel
theorem dX9_aPump_46 : decode cX9_aPump 46 = .ok (.aload_n 0, 1) := by decide +kernel
theorem dX9_aPump_47 : decode cX9_aPump 47 = .ok (.dup, 1) := by decide +kernel
theorem dX9_aPump_48 : decode cX9_aPump 48 = .ok (.getfield 90, 3) := by decide +kernel
theorem dX9_aPump_51 : decode cX9_aPump 51 = .ok (.iconst 1, 1) := by decide +kernel
theorem dX9_aPump_52 : decode cX9_aPump 52 = .ok (.iadd, 1) := by decide +kernel
theorem dX9_aPump_53 : decode cX9_aPump 53 = .ok (.putfield 90, 3) := by decide +kernel
theorem dX9_aPump_56 : decode cX9_aPump 56 = .ok (.return_, 1) := by decide +kernel
theorem dX9_areDoors_0 : decode cX9_areDoors 0 = .ok (.iload_n 1, 1) := by decide +kernel
theorem dX9_areDoors_1 : decode cX9_areDoors 1 = .ok (.i2l, 1) := by decide +kernel
theorem dX9_areDoors_2 : decode cX9_areDoors 2 = .ok (.lconst 0, 1) := by decide +kernel
theorem dX9_areDoors_3 : decode cX9_areDoors 3 = .ok (.iconst 1, 1) := by decide +kernel
theorem dX9_areDoors_4 : decode cX9_areDoors 4 = .ok (.aload_n 0, 1) := by decide +kernel
theorem dX9_areDoors_5 : decode cX9_areDoors 5 = .ok (.getfield 96, 3) := by decide +kernel
theorem dX9_areDoors_8 : decode cX9_areDoors 8 = .ok (.ishl, 1) := by decide +kernel
theorem dX9_areDoors_9 : decode cX9_areDoors 9 = .ok (.iconst 1, 1) := by decide +kernel
theorem dX9_areDoors_10 : decode cX9_areDoors 10 = .ok (.isub, 1) := by decide +kernel
theorem dX9_areDoors_11 : decode cX9_areDoors 11 = .ok (.i2l, 1) := by decide +kernel
theorem dX9_areDoors_12 : decode cX9_areDoors 12 = .ok (.invokestatic 114, 3) := by decide +kernel
theorem dX9_areDoors_15 : decode cX9_areDoors 15 = .ok (.ireturn, 1) := by decide +kernel
theorem dX9_areHolds_0 : decode cX9_areHolds 0 = .ok (.iload_n 1, 1) := by decide +kernel
theorem dX9_areHolds_1 : decode cX9_areHolds 1 = .ok (.i2l, 1) := by decide +kernel
theorem dX9_areHolds_2 : decode cX9_areHolds 2 = .ok (.lconst 0, 1) := by decide +kernel
theorem dX9_areHolds_3 : decode cX9_areHolds 3 = .ok (.iconst 1, 1) := by decide +kernel
theorem dX9_areHolds_4 : decode cX9_areHolds 4 = .ok (.aload_n 0, 1) := by decide +kernel
theorem dX9_areHolds_5 : decode cX9_areHolds 5 = .ok (.getfield 93, 3) := by decide +kernel
theorem dX9_areHolds_8 : decode cX9_areHolds 8 = .ok (.ishl, 1) := by decide +kernel
theorem dX9_areHolds_9 : decode cX9_areHolds 9 = .ok (.iconst 1, 1) := by decide +kernel
theorem dX9_areHolds_10 : decode cX9_areHolds 10 = .ok (.isub, 1) := by decide +kernel
theorem dX9_areHolds_11 : decode cX9_areHolds 11 = .ok (.i2l, 1) := by decide +kernel
theorem dX9_areHolds_12 : decode cX9_areHolds 12 = .ok (.invokestatic 114, 3) := by decide +kernel
theorem dX9_areHolds_15 : decode cX9_areHolds 15 = .ok (.ireturn, 1) := by decide +kernel
theorem dX9_copies_0 : decode cX9_copies 0 = .ok (.iconst 0, 1) := by decide +kernel
theorem dX9_copies_1 : decode cX9_copies 1 = .ok (.istore_n 3, 1) := by decide +kernel
theorem dX9_copies_2 : decode cX9_copies 2 = .ok (.iload_n 3, 1) := by decide +kernel
theorem dX9_copies_3 : decode cX9_copies 3 = .ok (.sipush 128, 3) := by decide +kernel
theorem dX9_copies_6 : decode cX9_copies 6 = .ok (.if_icmp .ge 25, 3) := by decide +kernel
theorem dX9_copies_9 : decode cX9_copies 9 = .ok (.aload_n 0, 1) := by decide +kernel
theorem dX9_copies_10 : decode cX9_copies 10 = .ok (.getfield 7, 3) := by decide +kernel
theorem dX9_copies_13 : decode cX9_copies 13 = .ok (.iload_n 1, 1) := by decide +kernel
theorem dX9_copies_14 : decode cX9_copies 14 = .ok (.iload_n 3, 1) := by decide +kernel
theorem dX9_copies_15 : decode cX9_copies 15 = .ok (.iadd, 1) := by decide +kernel
theorem dX9_copies_16 : decode cX9_copies 16 = .ok (.aload_n 0, 1) := by decide +kernel
theorem dX9_copies_17 : decode cX9_copies 17 = .ok (.getfield 7, 3) := by decide +kernel
theorem dX9_copies_20 : decode cX9_copies 20 = .ok (.iload_n 2, 1) := by decide +kernel
theorem dX9_copies_21 : decode cX9_copies 21 = .ok (.iload_n 3, 1) := by decide +kernel
theorem dX9_copies_22 : decode cX9_copies 22 = .ok (.iadd, 1) := by decide +kernel
theorem dX9_copies_23 : decode cX9_copies 23 = .ok (.iaload, 1) := by decide +kernel
theorem dX9_copies_24 : decode cX9_copies 24 = .ok (.iastore, 1) := by decide +kernel
theorem dX9_copies_25 : decode cX9_copies 25 = .ok (.iinc 3 1, 3) := by decide +kernel
theorem dX9_copies_28 : decode cX9_copies 28 = .ok (.goto (-26), 3) := by decide +kernel
theorem dX9_copies_31 : decode cX9_copies 31 = .ok (.return_, 1) := by decide +kernel
theorem dX9_back_0 : decode cX9_back 0 = .ok (.iload_n 1, 1) := by decide +kernel
theorem dX9_back_1 : decode cX9_back 1 = .ok (.i2l, 1) := by decide +kernel
theorem dX9_back_2 : decode cX9_back 2 = .ok (.lconst 0, 1) := by decide +kernel
theorem dX9_back_3 : decode cX9_back 3 = .ok (.lconst 1, 1) := by decide +kernel
theorem dX9_back_4 : decode cX9_back 4 = .ok (.invokestatic 114, 3) := by decide +kernel
theorem dX9_back_7 : decode cX9_back 7 = .ok (.ifCond .ne 5, 3) := by decide +kernel
theorem dX9_back_10 : decode cX9_back 10 = .ok (.iconst (-1), 1) := by decide +kernel
theorem dX9_back_11 : decode cX9_back 11 = .ok (.ireturn, 1) := by decide +kernel
theorem dX9_back_12 : decode cX9_back 12 = .ok (.aload_n 0, 1) := by decide +kernel
theorem dX9_back_13 : decode cX9_back 13 = .ok (.getfield 13, 3) := by decide +kernel
theorem dX9_back_16 : decode cX9_back 16 = .ok (.iload_n 1, 1) := by decide +kernel
theorem dX9_back_17 : decode cX9_back 17 = .ok (.baload, 1) := by decide +kernel
theorem dX9_back_18 : decode cX9_back 18 = .ok (.ifCond .ne 6, 3) := by decide +kernel
theorem dX9_back_21 : decode cX9_back 21 = .ok (.bipush (-2), 2) := by decide +kernel
theorem dX9_back_23 : decode cX9_back 23 = .ok (.ireturn, 1) := by decide +kernel
theorem dX9_back_24 : decode cX9_back 24 = .ok (.aload_n 0, 1) := by decide +kernel
theorem dX9_back_25 : decode cX9_back 25 = .ok (.iconst 0, 1) := by decide +kernel
theorem dX9_back_26 : decode cX9_back 26 = .ok (.sipush 128, 3) := by decide +kernel
theorem dX9_back_29 : decode cX9_back 29 = .ok (.sipush 128, 3) := by decide +kernel
theorem dX9_back_32 : decode cX9_back 32 = .ok (.iload_n 1, 1) := by decide +kernel
theorem dX9_back_33 : decode cX9_back 33 = .ok (.imul, 1) := by decide +kernel
theorem dX9_back_34 : decode cX9_back 34 = .ok (.iadd, 1) := by decide +kernel
theorem dX9_back_35 : decode cX9_back 35 = .ok (.invokevirtual 261, 3) := by decide +kernel
theorem dX9_back_38 : decode cX9_back 38 = .ok (.aload_n 0, 1) := by decide +kernel
theorem dX9_back_39 : decode cX9_back 39 = .ok (.getfield 7, 3) := by decide +kernel
theorem dX9_back_42 : decode cX9_back 42 = .ok (.bipush 71, 2) := by decide +kernel
theorem dX9_back_44 : decode cX9_back 44 = .ok (.iaload, 1) := by decide +kernel
theorem dX9_back_45 : decode cX9_back 45 = .ok (.ireturn, 1) := by decide +kernel
theorem dX9_floatsWith_0 : decode cX9_floatsWith 0 = .ok (.aload_n 0, 1) := by decide +kernel
theorem dX9_floatsWith_1 : decode cX9_floatsWith 1 = .ok (.sipush 384, 3) := by decide +kernel
theorem dX9_floatsWith_4 : decode cX9_floatsWith 4 = .ok (.iconst 0, 1) := by decide +kernel
theorem dX9_floatsWith_5 : decode cX9_floatsWith 5 = .ok (.invokevirtual 261, 3) := by decide +kernel
theorem dX9_floatsWith_8 : decode cX9_floatsWith 8 = .ok (.iconst 0, 1) := by decide +kernel
theorem dX9_floatsWith_9 : decode cX9_floatsWith 9 = .ok (.istore_n 2, 1) := by decide +kernel
theorem dX9_floatsWith_10 : decode cX9_floatsWith 10 = .ok (.iload_n 2, 1) := by decide +kernel
theorem dX9_floatsWith_11 : decode cX9_floatsWith 11 = .ok (.aload_n 0, 1) := by decide +kernel
theorem dX9_floatsWith_12 : decode cX9_floatsWith 12 = .ok (.getfield 93, 3) := by decide +kernel
theorem dX9_floatsWith_15 : decode cX9_floatsWith 15 = .ok (.if_icmp .ge 47, 3) := by decide +kernel
theorem dX9_floatsWith_18 : decode cX9_floatsWith 18 = .ok (.aload_n 0, 1) := by decide +kernel
theorem dX9_floatsWith_19 : decode cX9_floatsWith 19 = .ok (.getfield 7, 3) := by decide +kernel
theorem dX9_floatsWith_22 : decode cX9_floatsWith 22 = .ok (.sipush 384, 3) := by decide +kernel
theorem dX9_floatsWith_25 : decode cX9_floatsWith 25 = .ok (.iload_n 2, 1) := by decide +kernel
theorem dX9_floatsWith_26 : decode cX9_floatsWith 26 = .ok (.iadd, 1) := by decide +kernel
theorem dX9_floatsWith_27 : decode cX9_floatsWith 27 = .ok (.iload_n 1, 1) := by decide +kernel
theorem dX9_floatsWith_28 : decode cX9_floatsWith 28 = .ok (.iload_n 2, 1) := by decide +kernel
theorem dX9_floatsWith_29 : decode cX9_floatsWith 29 = .ok (.ishr, 1) := by decide +kernel
theorem dX9_floatsWith_30 : decode cX9_floatsWith 30 = .ok (.iconst 1, 1) := by decide +kernel
theorem dX9_floatsWith_31 : decode cX9_floatsWith 31 = .ok (.iand, 1) := by decide +kernel
theorem dX9_floatsWith_32 : decode cX9_floatsWith 32 = .ok (.iconst 1, 1) := by decide +kernel
theorem dX9_floatsWith_33 : decode cX9_floatsWith 33 = .ok (.if_icmp .ne 14, 3) := by decide +kernel
theorem dX9_floatsWith_36 : decode cX9_floatsWith 36 = .ok (.aload_n 0, 1) := by decide +kernel
theorem dX9_floatsWith_37 : decode cX9_floatsWith 37 = .ok (.getfield 17, 3) := by decide +kernel
theorem dX9_floatsWith_40 : decode cX9_floatsWith 40 = .ok (.iconst 4, 1) := by decide +kernel
theorem dX9_floatsWith_41 : decode cX9_floatsWith 41 = .ok (.iload_n 2, 1) := by decide +kernel
theorem dX9_floatsWith_42 : decode cX9_floatsWith 42 = .ok (.imul, 1) := by decide +kernel
theorem dX9_floatsWith_43 : decode cX9_floatsWith 43 = .ok (.iaload, 1) := by decide +kernel
theorem dX9_floatsWith_44 : decode cX9_floatsWith 44 = .ok (.goto 11, 3) := by decide +kernel
theorem dX9_floatsWith_47 : decode cX9_floatsWith 47 = .ok (.aload_n 0, 1) := by decide +kernel
theorem dX9_floatsWith_48 : decode cX9_floatsWith 48 = .ok (.getfield 7, 3) := by decide +kernel
theorem dX9_floatsWith_51 : decode cX9_floatsWith 51 = .ok (.iconst 0, 1) := by decide +kernel
theorem dX9_floatsWith_52 : decode cX9_floatsWith 52 = .ok (.iload_n 2, 1) := by decide +kernel
theorem dX9_floatsWith_53 : decode cX9_floatsWith 53 = .ok (.iadd, 1) := by decide +kernel
theorem dX9_floatsWith_54 : decode cX9_floatsWith 54 = .ok (.iaload, 1) := by decide +kernel
theorem dX9_floatsWith_55 : decode cX9_floatsWith 55 = .ok (.iastore, 1) := by decide +kernel
theorem dX9_floatsWith_56 : decode cX9_floatsWith 56 = .ok (.iinc 2 1, 3) := by decide +kernel
theorem dX9_floatsWith_59 : decode cX9_floatsWith 59 = .ok (.goto (-49), 3) := by decide +kernel
theorem dX9_floatsWith_62 : decode cX9_floatsWith 62 = .ok (.aload_n 0, 1) := by decide +kernel
theorem dX9_floatsWith_63 : decode cX9_floatsWith 63 = .ok (.sipush 384, 3) := by decide +kernel
theorem dX9_floatsWith_66 : decode cX9_floatsWith 66 = .ok (.invokevirtual 211, 3) := by decide +kernel
theorem dX9_floatsWith_69 : decode cX9_floatsWith 69 = .ok (.ifCond .ne 7, 3) := by decide +kernel
theorem dX9_floatsWith_72 : decode cX9_floatsWith 72 = .ok (.iconst 1, 1) := by decide +kernel
theorem dX9_floatsWith_73 : decode cX9_floatsWith 73 = .ok (.goto 4, 3) := by decide +kernel
theorem dX9_floatsWith_76 : decode cX9_floatsWith 76 = .ok (.iconst 0, 1) := by decide +kernel
theorem dX9_floatsWith_77 : decode cX9_floatsWith 77 = .ok (.ireturn, 1) := by decide +kernel
theorem dX9_isHold_0 : decode cX9_isHold 0 = .ok (.iload_n 1, 1) := by decide +kernel
theorem dX9_isHold_1 : decode cX9_isHold 1 = .ok (.i2l, 1) := by decide +kernel
theorem dX9_isHold_2 : decode cX9_isHold 2 = .ok (.lconst 0, 1) := by decide +kernel
theorem dX9_isHold_3 : decode cX9_isHold 3 = .ok (.aload_n 0, 1) := by decide +kernel
theorem dX9_isHold_4 : decode cX9_isHold 4 = .ok (.getfield 93, 3) := by decide +kernel
theorem dX9_isHold_7 : decode cX9_isHold 7 = .ok (.iconst 1, 1) := by decide +kernel
theorem dX9_isHold_8 : decode cX9_isHold 8 = .ok (.isub, 1) := by decide +kernel
theorem dX9_isHold_9 : decode cX9_isHold 9 = .ok (.i2l, 1) := by decide +kernel
theorem dX9_isHold_10 : decode cX9_isHold 10 = .ok (.invokestatic 114, 3) := by decide +kernel
theorem dX9_isHold_13 : decode cX9_isHold 13 = .ok (.ireturn, 1) := by decide +kernel
def b_X9_waterGoes_2 (a1 : Int32) (t1 : Int32 × Mm) : Option ((Int32 × Mm) ⊕ (Mm)) :=
  if (t1.2 113 6) ≤ t1.1 then (some (Sum.inr t1.2)) else ((ald t1.2 118 12 ((3 : Int32) * t1.1)).bind fun x3 => (ald t1.2 114 512 ((a1 + (0 : Int32)) + x3)).bind fun x4 => (f_X9_comesIn t1.2 a1 t1.1).bind fun x5 => (ast t1.2 114 512 ((a1 + (0 : Int32)) + x3) (x4 + x5)).bind fun m7 => some (Sum.inl (t1.1 + 1, m7)))
def b_X9_waterGoes_44 (a1 : Int32) (t8 : Int32 × Mm) : Option ((Int32 × Mm) ⊕ (Mm)) :=
  if (t8.2 113 2) ≤ t8.1 then (some (Sum.inr t8.2)) else ((ald t8.2 114 512 ((a1 + (8 : Int32)) + t8.1)).bind fun x10 => (if x10 = (1 : Int32) then (some 5) else (some 0) : Option (Int32)).bind fun y11 => (ald t8.2 114 512 ((a1 + (0 : Int32)) + t8.1)).bind fun x12 => (f_X9_room t8.2 a1 t8.1).bind fun x13 => (if x13 ≤ y11 then ((f_X9_room t8.2 a1 t8.1).bind fun x16 => some x16) else (some y11) : Option (Int32)).bind fun y15 => (ast t8.2 114 512 ((a1 + (0 : Int32)) + t8.1) (x12 + y15)).bind fun m18 => some (Sum.inl (t8.1 + 1, m18)))
def b_X9_waterGoes_124 (a1 : Int32) (t19 : Int32 × Mm) (t21 : Int32 × Mm) : Option ((Int32 × Mm) ⊕ (Mm)) :=
  (ald t21.2 117 60 (((6 : Int32) * t19.1) + (3 : Int32))).bind fun x23 => if x23 ≤ t21.1 then (some (Sum.inr t21.2)) else ((ald t21.2 114 512 ((a1 + (16 : Int32)) + t19.1)).bind fun x24 => if x24 = (1 : Int32) then ((f_X9_aTon t21.2 a1 t19.1).bind fun m26 => some (Sum.inl (t21.1 + 1, m26))) else (some (Sum.inr t21.2)))
def b_X9_waterGoes_114 (F : Nat) (a1 : Int32) (t19 : Int32 × Mm) : Option ((Int32 × Mm) ⊕ (Mm)) :=
  if (t19.2 113 4) ≤ t19.1 then (some (Sum.inr t19.2)) else ((iter F (b_X9_waterGoes_124 a1 t19) ((0, t19.2) : Int32 × Mm)).bind (fun e22 : Mm => some (Sum.inl (t19.1 + 1, e22))))
def b_X9_waterGoes_174 (a1 : Int32) (t27 : Int32 × Mm) : Option ((Int32 × Mm) ⊕ (Mm)) :=
  if (t27.2 113 8) ≤ t27.1 then (some (Sum.inr t27.2)) else ((ald t27.2 114 512 ((a1 + (44 : Int32)) + t27.1)).bind fun x29 => (if x29 = ((-4) : Int32) then (some t27.2) else ((ald t27.2 114 512 ((a1 + (0 : Int32)) + x29)).bind fun x31 => (ald t27.2 119 6 ((2 : Int32) * t27.1)).bind fun x32 => letv (x31 - x32) fun x33 => (if 0 ≤ x33 then (some x33) else (some 0) : Option (Int32)).bind fun y34 => (ast t27.2 114 512 ((a1 + (0 : Int32)) + x29) y34).bind fun m35 => some m35) : Option (Mm)).bind fun y30 => some (Sum.inl (t27.1 + 1, y30)))
def f_X9_waterGoes (F : Nat) (m : Mm) (a1 : Int32) : Option (Mm) :=
  (iter F (b_X9_waterGoes_2 a1) ((0, m) : Int32 × Mm)).bind (fun e2 : Mm => (iter F (b_X9_waterGoes_44 a1) ((0, e2) : Int32 × Mm)).bind (fun e9 : Mm => (iter F (b_X9_waterGoes_114 F a1) ((0, e9) : Int32 × Mm)).bind (fun e20 : Mm => (iter F (b_X9_waterGoes_174 a1) ((0, e20) : Int32 × Mm)).bind (fun e28 : Mm => some e28))))
set_option maxHeartbeats 4000000 in
set_option maxRecDepth 100000 in
theorem ct_X9_waterGoes (F : Nat) {n : Nat} (hn : 135 ≤ n) (P D : Nat) (T : Option Nat) (m : Mm) (a1 : Int32) : Ct yX9_waterGoes cX9_waterGoes 5 none 2 50 [.ref 113, .int a1] n n m (RF P D T) (rV (RF P D T) (f_X9_waterGoes F m a1)) := by
  refine Ct.ofV (own := RX9) (nm := "waterGoes") [(0, .ref 113), (1, .int a1)] (by decide) (Nat.le_of_ble_eq_true rfl) rfl rfl rfl ?_
  unfold f_X9_waterGoes
  refine J_iconst 0 dX9_waterGoes_0 (by decide) ?_
  refine J_istore_n 2 [(2, .int 0), (0, .ref 113), (1, .int a1)] dX9_waterGoes_1 rfl (by decide) rfl ?_
  refine J_lv [1, 2, 0] rfl ?_
  refine J_loop (pc := 2) (fun t1 : Int32 × Mm => [(0, .ref 113), (1, .int a1), (2, .int t1.1)]) (fun t1 => t1.2) (fun _ => 42) (fun e2 => [(0, .ref 113), (1, .int a1)]) (fun _ => []) (fun e2 => e2) ?_ (fun t1 k1 hBt1 hXt1 => ?_) F ((0, m))
  · refine fun e2 => ?_
    refine J_iconst 0 dX9_waterGoes_42 (by decide) ?_
    refine J_istore_n 2 [(2, .int 0), (0, .ref 113), (1, .int a1)] dX9_waterGoes_43 rfl (by decide) rfl ?_
    refine J_lv [1, 2, 0] rfl ?_
    refine J_loop (pc := 44) (fun t8 : Int32 × Mm => [(0, .ref 113), (1, .int a1), (2, .int t8.1)]) (fun t8 => t8.2) (fun _ => 112) (fun e9 => [(0, .ref 113), (1, .int a1)]) (fun _ => []) (fun e9 => e9) ?_ (fun t8 k1 hBt8 hXt8 => ?_) F ((0, e2))
    · refine fun e9 => ?_
      refine J_iconst 0 dX9_waterGoes_112 (by decide) ?_
      refine J_istore_n 2 [(2, .int 0), (0, .ref 113), (1, .int a1)] dX9_waterGoes_113 rfl (by decide) rfl ?_
      refine J_lv [1, 2, 0] rfl ?_
      refine J_loop (pc := 114) (fun t19 : Int32 × Mm => [(0, .ref 113), (1, .int a1), (2, .int t19.1)]) (fun t19 => t19.2) (fun _ => 172) (fun e20 => [(0, .ref 113), (1, .int a1)]) (fun _ => []) (fun e20 => e20) ?_ (fun t19 k1 hBt19 hXt19 => ?_) F ((0, e9))
      · refine fun e20 => ?_
        refine J_iconst 0 dX9_waterGoes_172 (by decide) ?_
        refine J_istore_n 2 [(2, .int 0), (0, .ref 113), (1, .int a1)] dX9_waterGoes_173 rfl (by decide) rfl ?_
        refine J_lv [1, 2, 0] rfl ?_
        refine J_loop (pc := 174) (fun t27 : Int32 × Mm => [(0, .ref 113), (1, .int a1), (2, .int t27.1)]) (fun t27 => t27.2) (fun _ => 248) (fun e28 => []) (fun _ => []) (fun e28 => e28) ?_ (fun t27 k1 hBt27 hXt27 => ?_) F ((0, e20))
        · refine fun e28 => ?_
          exact J_vretV dX9_waterGoes_248 rfl rfl
        · unfold b_X9_waterGoes_174
          refine J_iload_n 2 2 t27.1 dX9_waterGoes_174 rfl rfl ?_
          refine J_aload_n 0 0 113 dX9_waterGoes_175 rfl rfl ?_
          refine J_getI 113 9 8 dX9_waterGoes_176 fl_9_102 rfl rfl (Nat.lt_of_lt_of_le (Nat.le_of_ble_eq_true rfl) hn) ?_
          refine J_icmp_ge 248 dX9_waterGoes_179 (by decide) ?_ ?_
          · exact J_lv [] rfl (hXt27 t27.2)
          · refine J_aload_n 0 0 113 dX9_waterGoes_182 rfl rfl ?_
            refine J_getR 113 9 0 114 dX9_waterGoes_183 fl_9_7 rfl rfl (Nat.lt_of_lt_of_le (Nat.le_of_ble_eq_true rfl) hn) rfl ?_
            refine J_iload_n 1 1 a1 dX9_waterGoes_186 rfl rfl ?_
            refine J_bipush 44 dX9_waterGoes_187 (by decide) ?_
            refine J_iadd dX9_waterGoes_189 ?_
            refine J_iload_n 2 2 t27.1 dX9_waterGoes_190 rfl rfl ?_
            refine J_iadd dX9_waterGoes_191 ?_
            refine J_iald 114 512 dX9_waterGoes_192 rfl (Nat.lt_of_lt_of_le (Nat.le_of_ble_eq_true rfl) hn) (fun x29 => ?_)
            refine J_istore_n 3 [(3, .int x29), (0, .ref 113), (1, .int a1), (2, .int t27.1)] dX9_waterGoes_193 rfl (by decide) rfl ?_
            refine J_iload_n 3 0 x29 dX9_waterGoes_194 rfl rfl ?_
            refine J_bipush (-4) dX9_waterGoes_195 (by decide) ?_
            refine J_seqJ 242 (fun y30 : Mm => [(0, .ref 113), (1, .int a1), (2, .int t27.1)]) (fun y30 => []) (fun y30 => y30) (fun y30 => ?_) (fun k1 hEy30 => ?_)
            · refine J_iinc 2 2 [(2, .int (t27.1 + 1)), (0, .ref 113), (1, .int a1)] t27.1 (t27.1 + 1) dX9_waterGoes_242 rfl rfl (by decide) rfl ?_
              refine J_goto 174 dX9_waterGoes_245 (by decide) ?_
              exact J_lv [1, 2, 0] rfl (hBt27 (t27.1 + 1, y30))
            · refine J_icmp_eq 242 dX9_waterGoes_197 (by decide) ?_ ?_
              · exact J_lv [1, 2, 3] rfl (hEy30 t27.2)
              · refine J_aload_n 0 1 113 dX9_waterGoes_200 rfl rfl ?_
                refine J_getR 113 9 0 114 dX9_waterGoes_201 fl_9_7 rfl rfl (Nat.lt_of_lt_of_le (Nat.le_of_ble_eq_true rfl) hn) rfl ?_
                refine J_iload_n 1 2 a1 dX9_waterGoes_204 rfl rfl ?_
                refine J_iconst 0 dX9_waterGoes_205 (by decide) ?_
                refine J_iadd dX9_waterGoes_206 ?_
                refine J_iload_n 3 0 x29 dX9_waterGoes_207 rfl rfl ?_
                refine J_iadd dX9_waterGoes_208 ?_
                refine J_iald 114 512 dX9_waterGoes_209 rfl (Nat.lt_of_lt_of_le (Nat.le_of_ble_eq_true rfl) hn) (fun x31 => ?_)
                refine J_aload_n 0 1 113 dX9_waterGoes_210 rfl rfl ?_
                refine J_getR 113 9 9 119 dX9_waterGoes_211 fl_9_26 rfl rfl (Nat.lt_of_lt_of_le (Nat.le_of_ble_eq_true rfl) hn) rfl ?_
                refine J_iconst 2 dX9_waterGoes_214 (by decide) ?_
                refine J_iload_n 2 3 t27.1 dX9_waterGoes_215 rfl rfl ?_
                refine J_imul dX9_waterGoes_216 ?_
                refine J_iald 119 6 dX9_waterGoes_217 rfl (Nat.lt_of_lt_of_le (Nat.le_of_ble_eq_true rfl) hn) (fun x32 => ?_)
                refine J_isub dX9_waterGoes_218 ?_
                refine J_let (fun x33 => ?_)
                refine J_istore 4 [(4, .int x33), (3, .int x29), (0, .ref 113), (1, .int a1), (2, .int t27.1)] dX9_waterGoes_219 (by decide) rfl ?_
                refine J_aload_n 0 2 113 dX9_waterGoes_221 rfl rfl ?_
                refine J_getR 113 9 0 114 dX9_waterGoes_222 fl_9_7 rfl rfl (Nat.lt_of_lt_of_le (Nat.le_of_ble_eq_true rfl) hn) rfl ?_
                refine J_iload_n 1 3 a1 dX9_waterGoes_225 rfl rfl ?_
                refine J_iconst 0 dX9_waterGoes_226 (by decide) ?_
                refine J_iadd dX9_waterGoes_227 ?_
                refine J_iload_n 3 1 x29 dX9_waterGoes_228 rfl rfl ?_
                refine J_iadd dX9_waterGoes_229 ?_
                refine J_iload 4 0 x33 dX9_waterGoes_230 rfl ?_
                refine J_seqJ 241 (fun y34 : Int32 => [(0, .ref 113), (1, .int a1), (2, .int t27.1)]) (fun y34 => [.int y34, .int ((a1 + (0 : Int32)) + x29), .ref 114]) (fun y34 => t27.2) (fun y34 => ?_) (fun k1 hEy34 => ?_)
                · refine J_iast 114 512 dX9_waterGoes_241 rfl (Nat.lt_of_lt_of_le (Nat.le_of_ble_eq_true rfl) hn) (fun m35 => ?_)
                  exact J_lv [0, 1, 2] rfl (hEy30 m35)
                · refine J_if_ge 239 dX9_waterGoes_232 (by decide) ?_ ?_
                  · refine J_iload 4 0 x33 dX9_waterGoes_239 rfl ?_
                    exact J_lv [2, 3, 4] rfl (hEy34 x33)
                  · refine J_iconst 0 dX9_waterGoes_235 (by decide) ?_
                    refine J_goto 241 dX9_waterGoes_236 (by decide) ?_
                    exact J_lv [2, 3, 4] rfl (hEy34 0)
      · unfold b_X9_waterGoes_114
        refine J_iload_n 2 2 t19.1 dX9_waterGoes_114 rfl rfl ?_
        refine J_aload_n 0 0 113 dX9_waterGoes_115 rfl rfl ?_
        refine J_getI 113 9 4 dX9_waterGoes_116 fl_9_96 rfl rfl (Nat.lt_of_lt_of_le (Nat.le_of_ble_eq_true rfl) hn) ?_
        refine J_icmp_ge 172 dX9_waterGoes_119 (by decide) ?_ ?_
        · exact J_lv [0, 1] rfl (hXt19 t19.2)
        · refine J_iconst 0 dX9_waterGoes_122 (by decide) ?_
          refine J_istore_n 3 [(3, .int 0), (0, .ref 113), (1, .int a1), (2, .int t19.1)] dX9_waterGoes_123 rfl (by decide) rfl ?_
          refine J_lv [1, 2, 3, 0] rfl ?_
          refine J_loop (pc := 124) (fun t21 : Int32 × Mm => [(0, .ref 113), (1, .int a1), (2, .int t19.1), (3, .int t21.1)]) (fun t21 => t21.2) (fun _ => 166) (fun e22 => [(0, .ref 113), (1, .int a1), (2, .int t19.1)]) (fun _ => []) (fun e22 => e22) ?_ (fun t21 k1 hBt21 hXt21 => ?_) F ((0, t19.2))
          · refine fun e22 => ?_
            refine J_iinc 2 2 [(2, .int (t19.1 + 1)), (0, .ref 113), (1, .int a1)] t19.1 (t19.1 + 1) dX9_waterGoes_166 rfl rfl (by decide) rfl ?_
            refine J_goto 114 dX9_waterGoes_169 (by decide) ?_
            exact J_lv [1, 2, 0] rfl (hBt19 (t19.1 + 1, e22))
          · unfold b_X9_waterGoes_124
            refine J_iload_n 3 3 t21.1 dX9_waterGoes_124 rfl rfl ?_
            refine J_aload_n 0 0 113 dX9_waterGoes_125 rfl rfl ?_
            refine J_getR 113 9 5 117 dX9_waterGoes_126 fl_9_20 rfl rfl (Nat.lt_of_lt_of_le (Nat.le_of_ble_eq_true rfl) hn) rfl ?_
            refine J_bipush 6 dX9_waterGoes_129 (by decide) ?_
            refine J_iload_n 2 2 t19.1 dX9_waterGoes_131 rfl rfl ?_
            refine J_imul dX9_waterGoes_132 ?_
            refine J_iconst 3 dX9_waterGoes_133 (by decide) ?_
            refine J_iadd dX9_waterGoes_134 ?_
            refine J_iald 117 60 dX9_waterGoes_135 rfl (Nat.lt_of_lt_of_le (Nat.le_of_ble_eq_true rfl) hn) (fun x23 => ?_)
            refine J_icmp_ge 166 dX9_waterGoes_136 (by decide) ?_ ?_
            · exact J_lv [0, 1, 2] rfl (hXt21 t21.2)
            · refine J_aload_n 0 0 113 dX9_waterGoes_139 rfl rfl ?_
              refine J_getR 113 9 0 114 dX9_waterGoes_140 fl_9_7 rfl rfl (Nat.lt_of_lt_of_le (Nat.le_of_ble_eq_true rfl) hn) rfl ?_
              refine J_iload_n 1 1 a1 dX9_waterGoes_143 rfl rfl ?_
              refine J_bipush 16 dX9_waterGoes_144 (by decide) ?_
              refine J_iadd dX9_waterGoes_146 ?_
              refine J_iload_n 2 2 t19.1 dX9_waterGoes_147 rfl rfl ?_
              refine J_iadd dX9_waterGoes_148 ?_
              refine J_iald 114 512 dX9_waterGoes_149 rfl (Nat.lt_of_lt_of_le (Nat.le_of_ble_eq_true rfl) hn) (fun x24 => ?_)
              refine J_iconst 1 dX9_waterGoes_150 (by decide) ?_
              refine J_icmp_ne 166 dX9_waterGoes_151 (by decide) ?_ ?_
              · exact J_lv [0, 1, 2] rfl (hXt21 t21.2)
              · refine J_aload_n 0 0 113 dX9_waterGoes_154 rfl rfl ?_
                refine J_iload_n 1 1 a1 dX9_waterGoes_155 rfl rfl ?_
                refine J_iload_n 2 2 t19.1 dX9_waterGoes_156 rfl rfl ?_
                refine J_callVV 113 9 2 [.int a1, .int t19.1] dX9_waterGoes_157 mv_X9_aTon mv_X9_aTonv lk_9_247 (ct_X9_aTon F hn P D T t21.2 a1 t19.1) rfl rfl (by decide) rfl (Nat.lt_of_lt_of_le (Nat.le_of_ble_eq_true rfl) hn) ⟨by decide, by decide⟩ (Nat.le_of_ble_eq_true rfl) (fun m26 => ?_)
                refine J_iinc 3 3 [(3, .int (t21.1 + 1)), (0, .ref 113), (1, .int a1), (2, .int t19.1)] t21.1 (t21.1 + 1) dX9_waterGoes_160 rfl rfl (by decide) rfl ?_
                refine J_goto 124 dX9_waterGoes_163 (by decide) ?_
                exact J_lv [1, 2, 3, 0] rfl (hBt21 (t21.1 + 1, m26))
    · unfold b_X9_waterGoes_44
      refine J_iload_n 2 2 t8.1 dX9_waterGoes_44 rfl rfl ?_
      refine J_aload_n 0 0 113 dX9_waterGoes_45 rfl rfl ?_
      refine J_getI 113 9 2 dX9_waterGoes_46 fl_9_93 rfl rfl (Nat.lt_of_lt_of_le (Nat.le_of_ble_eq_true rfl) hn) ?_
      refine J_icmp_ge 112 dX9_waterGoes_49 (by decide) ?_ ?_
      · exact J_lv [0, 1] rfl (hXt8 t8.2)
      · refine J_aload_n 0 0 113 dX9_waterGoes_52 rfl rfl ?_
        refine J_getR 113 9 0 114 dX9_waterGoes_53 fl_9_7 rfl rfl (Nat.lt_of_lt_of_le (Nat.le_of_ble_eq_true rfl) hn) rfl ?_
        refine J_iload_n 1 1 a1 dX9_waterGoes_56 rfl rfl ?_
        refine J_bipush 8 dX9_waterGoes_57 (by decide) ?_
        refine J_iadd dX9_waterGoes_59 ?_
        refine J_iload_n 2 2 t8.1 dX9_waterGoes_60 rfl rfl ?_
        refine J_iadd dX9_waterGoes_61 ?_
        refine J_iald 114 512 dX9_waterGoes_62 rfl (Nat.lt_of_lt_of_le (Nat.le_of_ble_eq_true rfl) hn) (fun x10 => ?_)
        refine J_iconst 1 dX9_waterGoes_63 (by decide) ?_
        refine J_seqJ 72 (fun y11 : Int32 => [(0, .ref 113), (1, .int a1), (2, .int t8.1)]) (fun y11 => [.int y11]) (fun y11 => t8.2) (fun y11 => ?_) (fun k1 hEy11 => ?_)
        · refine J_istore_n 3 [(3, .int y11), (0, .ref 113), (1, .int a1), (2, .int t8.1)] dX9_waterGoes_72 rfl (by decide) rfl ?_
          refine J_aload_n 0 1 113 dX9_waterGoes_73 rfl rfl ?_
          refine J_getR 113 9 0 114 dX9_waterGoes_74 fl_9_7 rfl rfl (Nat.lt_of_lt_of_le (Nat.le_of_ble_eq_true rfl) hn) rfl ?_
          refine J_iload_n 1 2 a1 dX9_waterGoes_77 rfl rfl ?_
          refine J_iconst 0 dX9_waterGoes_78 (by decide) ?_
          refine J_iadd dX9_waterGoes_79 ?_
          refine J_iload_n 2 3 t8.1 dX9_waterGoes_80 rfl rfl ?_
          refine J_iadd dX9_waterGoes_81 ?_
          refine J_dup2 dX9_waterGoes_82 rfl rfl ?_
          refine J_iald 114 512 dX9_waterGoes_83 rfl (Nat.lt_of_lt_of_le (Nat.le_of_ble_eq_true rfl) hn) (fun x12 => ?_)
          refine J_iload_n 3 0 y11 dX9_waterGoes_84 rfl rfl ?_
          refine J_aload_n 0 1 113 dX9_waterGoes_85 rfl rfl ?_
          refine J_iload_n 1 2 a1 dX9_waterGoes_86 rfl rfl ?_
          refine J_iload_n 2 3 t8.1 dX9_waterGoes_87 rfl rfl ?_
          refine J_callVP 113 9 2 [.int a1, .int t8.1] dX9_waterGoes_88 mv_X9_room mv_X9_roomv lk_9_217 (ct_X9_room F hn P D T t8.2 a1 t8.1) rfl rfl (by decide) rfl (Nat.lt_of_lt_of_le (Nat.le_of_ble_eq_true rfl) hn) ⟨by decide, by decide⟩ (Nat.le_of_ble_eq_true rfl) (fun x13 => ?_)
          refine J_seqJ 104 (fun y15 : Int32 => [(0, .ref 113), (1, .int a1), (2, .int t8.1)]) (fun y15 => [.int y15, .int x12, .int ((a1 + (0 : Int32)) + t8.1), .ref 114]) (fun y15 => t8.2) (fun y15 => ?_) (fun k1 hEy15 => ?_)
          · refine J_iadd dX9_waterGoes_104 ?_
            refine J_iast 114 512 dX9_waterGoes_105 rfl (Nat.lt_of_lt_of_le (Nat.le_of_ble_eq_true rfl) hn) (fun m18 => ?_)
            refine J_iinc 2 2 [(2, .int (t8.1 + 1)), (0, .ref 113), (1, .int a1)] t8.1 (t8.1 + 1) dX9_waterGoes_106 rfl rfl (by decide) rfl ?_
            refine J_goto 44 dX9_waterGoes_109 (by decide) ?_
            exact J_lv [1, 2, 0] rfl (hBt8 (t8.1 + 1, m18))
          · refine J_icmp_ge 98 dX9_waterGoes_91 (by decide) ?_ ?_
            · refine J_aload_n 0 1 113 dX9_waterGoes_98 rfl rfl ?_
              refine J_iload_n 1 2 a1 dX9_waterGoes_99 rfl rfl ?_
              refine J_iload_n 2 3 t8.1 dX9_waterGoes_100 rfl rfl ?_
              refine J_callVP 113 9 2 [.int a1, .int t8.1] dX9_waterGoes_101 mv_X9_room mv_X9_roomv lk_9_217 (ct_X9_room F hn P D T t8.2 a1 t8.1) rfl rfl (by decide) rfl (Nat.lt_of_lt_of_le (Nat.le_of_ble_eq_true rfl) hn) ⟨by decide, by decide⟩ (Nat.le_of_ble_eq_true rfl) (fun x16 => ?_)
              exact J_lv [1, 2, 3] rfl (hEy15 x16)
            · refine J_iload_n 3 0 y11 dX9_waterGoes_94 rfl rfl ?_
              refine J_goto 104 dX9_waterGoes_95 (by decide) ?_
              exact J_lv [1, 2, 3] rfl (hEy15 y11)
        · refine J_icmp_ne 71 dX9_waterGoes_64 (by decide) ?_ ?_
          · refine J_iconst 0 dX9_waterGoes_71 (by decide) ?_
            exact J_lv [0, 1, 2] rfl (hEy11 0)
          · refine J_iconst 5 dX9_waterGoes_67 (by decide) ?_
            refine J_goto 72 dX9_waterGoes_68 (by decide) ?_
            exact J_lv [0, 1, 2] rfl (hEy11 5)
  · unfold b_X9_waterGoes_2
    refine J_iload_n 2 2 t1.1 dX9_waterGoes_2 rfl rfl ?_
    refine J_aload_n 0 0 113 dX9_waterGoes_3 rfl rfl ?_
    refine J_getI 113 9 6 dX9_waterGoes_4 fl_9_99 rfl rfl (Nat.lt_of_lt_of_le (Nat.le_of_ble_eq_true rfl) hn) ?_
    refine J_icmp_ge 42 dX9_waterGoes_7 (by decide) ?_ ?_
    · exact J_lv [0, 1] rfl (hXt1 t1.2)
    · refine J_aload_n 0 0 113 dX9_waterGoes_10 rfl rfl ?_
      refine J_getR 113 9 0 114 dX9_waterGoes_11 fl_9_7 rfl rfl (Nat.lt_of_lt_of_le (Nat.le_of_ble_eq_true rfl) hn) rfl ?_
      refine J_iload_n 1 1 a1 dX9_waterGoes_14 rfl rfl ?_
      refine J_iconst 0 dX9_waterGoes_15 (by decide) ?_
      refine J_iadd dX9_waterGoes_16 ?_
      refine J_aload_n 0 0 113 dX9_waterGoes_17 rfl rfl ?_
      refine J_getR 113 9 7 118 dX9_waterGoes_18 fl_9_23 rfl rfl (Nat.lt_of_lt_of_le (Nat.le_of_ble_eq_true rfl) hn) rfl ?_
      refine J_iconst 3 dX9_waterGoes_21 (by decide) ?_
      refine J_iload_n 2 2 t1.1 dX9_waterGoes_22 rfl rfl ?_
      refine J_imul dX9_waterGoes_23 ?_
      refine J_iald 118 12 dX9_waterGoes_24 rfl (Nat.lt_of_lt_of_le (Nat.le_of_ble_eq_true rfl) hn) (fun x3 => ?_)
      refine J_iadd dX9_waterGoes_25 ?_
      refine J_dup2 dX9_waterGoes_26 rfl rfl ?_
      refine J_iald 114 512 dX9_waterGoes_27 rfl (Nat.lt_of_lt_of_le (Nat.le_of_ble_eq_true rfl) hn) (fun x4 => ?_)
      refine J_aload_n 0 0 113 dX9_waterGoes_28 rfl rfl ?_
      refine J_iload_n 1 1 a1 dX9_waterGoes_29 rfl rfl ?_
      refine J_iload_n 2 2 t1.1 dX9_waterGoes_30 rfl rfl ?_
      refine J_callVP 113 9 2 [.int a1, .int t1.1] dX9_waterGoes_31 mv_X9_comesIn mv_X9_comesInv lk_9_231 (ct_X9_comesIn F hn P D T t1.2 a1 t1.1) rfl rfl (by decide) rfl (Nat.lt_of_lt_of_le (Nat.le_of_ble_eq_true rfl) hn) ⟨by decide, by decide⟩ (Nat.le_of_ble_eq_true rfl) (fun x5 => ?_)
      refine J_iadd dX9_waterGoes_34 ?_
      refine J_iast 114 512 dX9_waterGoes_35 rfl (Nat.lt_of_lt_of_le (Nat.le_of_ble_eq_true rfl) hn) (fun m7 => ?_)
      refine J_iinc 2 2 [(2, .int (t1.1 + 1)), (0, .ref 113), (1, .int a1)] t1.1 (t1.1 + 1) dX9_waterGoes_36 rfl rfl (by decide) rfl ?_
      refine J_goto 2 dX9_waterGoes_39 (by decide) ?_
      exact J_lv [1, 2, 0] rfl (hBt1 (t1.1 + 1, m7))
def f_X9_aMinute (F : Nat) (m : Mm) (a1 : Int32) : Option (Mm) :=
  (ald m 114 512 (a1 + (72 : Int32))).bind fun x1 => if x1 ≤ 0 then ((f_X9_ordersGo F m a1).bind fun m3 => (f_X9_waterGoes F m3 a1).bind fun m5 => (ald m5 114 512 (a1 + (71 : Int32))).bind fun x6 => (ast m5 114 512 (a1 + (71 : Int32)) (x6 + (1 : Int32))).bind fun m7 => (f_X9_sees F m7 a1).bind fun m9 => some m9) else ((ald m 114 512 (a1 + (71 : Int32))).bind fun x10 => (ast m 114 512 (a1 + (71 : Int32)) (x10 + (1 : Int32))).bind fun m11 => some m11)
set_option maxHeartbeats 4000000 in
set_option maxRecDepth 100000 in
theorem ct_X9_aMinute (F : Nat) {n : Nat} (hn : 135 ≤ n) (P D : Nat) (T : Option Nat) (m : Mm) (a1 : Int32) : Ct yX9_aMinute cX9_aMinute 2 none 4 85 [.ref 113, .int a1] n n m (RF P D T) (rV (RF P D T) (f_X9_aMinute F m a1)) := by
  refine Ct.ofV (own := RX9) (nm := "aMinute") [(0, .ref 113), (1, .int a1)] (by decide) (Nat.le_of_ble_eq_true rfl) rfl rfl rfl ?_
  unfold f_X9_aMinute
  refine J_aload_n 0 0 113 dX9_aMinute_0 rfl rfl ?_
  refine J_getR 113 9 0 114 dX9_aMinute_1 fl_9_7 rfl rfl (Nat.lt_of_lt_of_le (Nat.le_of_ble_eq_true rfl) hn) rfl ?_
  refine J_iload_n 1 1 a1 dX9_aMinute_4 rfl rfl ?_
  refine J_bipush 72 dX9_aMinute_5 (by decide) ?_
  refine J_iadd dX9_aMinute_7 ?_
  refine J_iald 114 512 dX9_aMinute_8 rfl (Nat.lt_of_lt_of_le (Nat.le_of_ble_eq_true rfl) hn) (fun x1 => ?_)
  refine J_if_le 26 dX9_aMinute_9 (by decide) ?_ ?_
  · refine J_aload_n 0 0 113 dX9_aMinute_26 rfl rfl ?_
    refine J_iload_n 1 1 a1 dX9_aMinute_27 rfl rfl ?_
    refine J_callVV 113 9 1 [.int a1] dX9_aMinute_28 mv_X9_ordersGo mv_X9_ordersGov lk_9_250 (ct_X9_ordersGo F hn P D T m a1) rfl rfl (by decide) rfl (Nat.lt_of_lt_of_le (Nat.le_of_ble_eq_true rfl) hn) ⟨by decide, by decide⟩ (Nat.le_of_ble_eq_true rfl) (fun m3 => ?_)
    refine J_aload_n 0 0 113 dX9_aMinute_31 rfl rfl ?_
    refine J_iload_n 1 1 a1 dX9_aMinute_32 rfl rfl ?_
    refine J_callVV 113 9 1 [.int a1] dX9_aMinute_33 mv_X9_waterGoes mv_X9_waterGoesv lk_9_253 (ct_X9_waterGoes F hn P D T m3 a1) rfl rfl (by decide) rfl (Nat.lt_of_lt_of_le (Nat.le_of_ble_eq_true rfl) hn) ⟨by decide, by decide⟩ (Nat.le_of_ble_eq_true rfl) (fun m5 => ?_)
    refine J_aload_n 0 0 113 dX9_aMinute_36 rfl rfl ?_
    refine J_getR 113 9 0 114 dX9_aMinute_37 fl_9_7 rfl rfl (Nat.lt_of_lt_of_le (Nat.le_of_ble_eq_true rfl) hn) rfl ?_
    refine J_iload_n 1 1 a1 dX9_aMinute_40 rfl rfl ?_
    refine J_bipush 71 dX9_aMinute_41 (by decide) ?_
    refine J_iadd dX9_aMinute_43 ?_
    refine J_dup2 dX9_aMinute_44 rfl rfl ?_
    refine J_iald 114 512 dX9_aMinute_45 rfl (Nat.lt_of_lt_of_le (Nat.le_of_ble_eq_true rfl) hn) (fun x6 => ?_)
    refine J_iconst 1 dX9_aMinute_46 (by decide) ?_
    refine J_iadd dX9_aMinute_47 ?_
    refine J_iast 114 512 dX9_aMinute_48 rfl (Nat.lt_of_lt_of_le (Nat.le_of_ble_eq_true rfl) hn) (fun m7 => ?_)
    refine J_aload_n 0 0 113 dX9_aMinute_49 rfl rfl ?_
    refine J_iload_n 1 1 a1 dX9_aMinute_50 rfl rfl ?_
    refine J_callVV 113 9 1 [.int a1] dX9_aMinute_51 mv_X9_sees mv_X9_seesv lk_9_105 (ct_X9_sees F hn P D T m7 a1) rfl rfl (by decide) rfl (Nat.lt_of_lt_of_le (Nat.le_of_ble_eq_true rfl) hn) ⟨by decide, by decide⟩ (Nat.le_of_ble_eq_true rfl) (fun m9 => ?_)
    exact J_vretV dX9_aMinute_54 rfl rfl
  · refine J_aload_n 0 0 113 dX9_aMinute_12 rfl rfl ?_
    refine J_getR 113 9 0 114 dX9_aMinute_13 fl_9_7 rfl rfl (Nat.lt_of_lt_of_le (Nat.le_of_ble_eq_true rfl) hn) rfl ?_
    refine J_iload_n 1 1 a1 dX9_aMinute_16 rfl rfl ?_
    refine J_bipush 71 dX9_aMinute_17 (by decide) ?_
    refine J_iadd dX9_aMinute_19 ?_
    refine J_dup2 dX9_aMinute_20 rfl rfl ?_
    refine J_iald 114 512 dX9_aMinute_21 rfl (Nat.lt_of_lt_of_le (Nat.le_of_ble_eq_true rfl) hn) (fun x10 => ?_)
    refine J_iconst 1 dX9_aMinute_22 (by decide) ?_
    refine J_iadd dX9_aMinute_23 ?_
    refine J_iast 114 512 dX9_aMinute_24 rfl (Nat.lt_of_lt_of_le (Nat.le_of_ble_eq_true rfl) hn) (fun m11 => ?_)
    exact J_vretV dX9_aMinute_25 rfl rfl
def f_X9_aPump (F : Nat) (m : Mm) : Option (Mm) :=
  bind2 (f_X9_readNumber F m 1 9) fun x1 m2 => bind2 (f_X9_readHold F m2) fun x3 m4 => if (m4 113 27) = 0 then ((ast m4 124 6 ((2 : Int32) * (m4 113 17)) x1).bind fun m5 => (ast m5 124 6 (((2 : Int32) * (m5 113 17)) + (1 : Int32)) x3).bind fun m6 => letv (up2 m6 113 17 ((m6 113 17) + (1 : Int32))) fun m7 => some m7) else (some m4)
set_option maxHeartbeats 4000000 in
set_option maxRecDepth 100000 in
theorem ct_X9_aPump (F : Nat) {n : Nat} (hn : 135 ≤ n) (P D : Nat) (T : Option Nat) (m : Mm)  : Ct yX9_aPump cX9_aPump 3 none 4 90 [.ref 113] n n m (RF P D T) (rV (RF P D T) (f_X9_aPump F m)) := by
  refine Ct.ofV (own := RX9) (nm := "aPump") [(0, .ref 113)] (by decide) (Nat.le_of_ble_eq_true rfl) rfl rfl rfl ?_
  unfold f_X9_aPump
  refine J_aload_n 0 0 113 dX9_aPump_0 rfl rfl ?_
  refine J_iconst 1 dX9_aPump_1 (by decide) ?_
  refine J_bipush 9 dX9_aPump_2 (by decide) ?_
  refine J_callVI 113 9 2 [.int 1, .int 9] dX9_aPump_4 mv_X9_readNumber mv_X9_readNumberv lk_9_163 (ct_X9_readNumber F hn P D T m 1 9) rfl rfl (by decide) rfl (Nat.lt_of_lt_of_le (Nat.le_of_ble_eq_true rfl) hn) ⟨by decide, by decide⟩ (Nat.le_of_ble_eq_true rfl) (fun x1 m2 => ?_)
  refine J_istore_n 1 [(1, .int x1), (0, .ref 113)] dX9_aPump_7 rfl (by decide) rfl ?_
  refine J_aload_n 0 1 113 dX9_aPump_8 rfl rfl ?_
  refine J_callVI 113 9 0 [] dX9_aPump_9 mv_X9_readHold mv_X9_readHoldv lk_9_167 (ct_X9_readHold F hn P D T m2) rfl rfl (by decide) rfl (Nat.lt_of_lt_of_le (Nat.le_of_ble_eq_true rfl) hn) ⟨by decide, by decide⟩ (Nat.le_of_ble_eq_true rfl) (fun x3 m4 => ?_)
  refine J_istore_n 2 [(2, .int x3), (1, .int x1), (0, .ref 113)] dX9_aPump_12 rfl (by decide) rfl ?_
  refine J_aload_n 0 2 113 dX9_aPump_13 rfl rfl ?_
  refine J_getI 113 9 27 dX9_aPump_14 fl_9_118 rfl rfl (Nat.lt_of_lt_of_le (Nat.le_of_ble_eq_true rfl) hn) ?_
  refine J_if_ne 56 dX9_aPump_17 (by decide) ?_ ?_
  · exact J_vretV dX9_aPump_56 rfl rfl
  · refine J_aload_n 0 2 113 dX9_aPump_20 rfl rfl ?_
    refine J_getR 113 9 18 124 dX9_aPump_21 fl_9_41 rfl rfl (Nat.lt_of_lt_of_le (Nat.le_of_ble_eq_true rfl) hn) rfl ?_
    refine J_iconst 2 dX9_aPump_24 (by decide) ?_
    refine J_aload_n 0 2 113 dX9_aPump_25 rfl rfl ?_
    refine J_getI 113 9 17 dX9_aPump_26 fl_9_90 rfl rfl (Nat.lt_of_lt_of_le (Nat.le_of_ble_eq_true rfl) hn) ?_
    refine J_imul dX9_aPump_29 ?_
    refine J_iload_n 1 1 x1 dX9_aPump_30 rfl rfl ?_
    refine J_iast 124 6 dX9_aPump_31 rfl (Nat.lt_of_lt_of_le (Nat.le_of_ble_eq_true rfl) hn) (fun m5 => ?_)
    refine J_aload_n 0 2 113 dX9_aPump_32 rfl rfl ?_
    refine J_getR 113 9 18 124 dX9_aPump_33 fl_9_41 rfl rfl (Nat.lt_of_lt_of_le (Nat.le_of_ble_eq_true rfl) hn) rfl ?_
    refine J_iconst 2 dX9_aPump_36 (by decide) ?_
    refine J_aload_n 0 2 113 dX9_aPump_37 rfl rfl ?_
    refine J_getI 113 9 17 dX9_aPump_38 fl_9_90 rfl rfl (Nat.lt_of_lt_of_le (Nat.le_of_ble_eq_true rfl) hn) ?_
    refine J_imul dX9_aPump_41 ?_
    refine J_iconst 1 dX9_aPump_42 (by decide) ?_
    refine J_iadd dX9_aPump_43 ?_
    refine J_iload_n 2 0 x3 dX9_aPump_44 rfl rfl ?_
    refine J_iast 124 6 dX9_aPump_45 rfl (Nat.lt_of_lt_of_le (Nat.le_of_ble_eq_true rfl) hn) (fun m6 => ?_)
    refine J_aload_n 0 2 113 dX9_aPump_46 rfl rfl ?_
    refine J_dup dX9_aPump_47 rfl ?_
    refine J_getI 113 9 17 dX9_aPump_48 fl_9_90 rfl rfl (Nat.lt_of_lt_of_le (Nat.le_of_ble_eq_true rfl) hn) ?_
    refine J_iconst 1 dX9_aPump_51 (by decide) ?_
    refine J_iadd dX9_aPump_52 ?_
    refine J_putI 113 9 17 dX9_aPump_53 fl_9_90 rfl rfl (Nat.lt_of_lt_of_le (Nat.le_of_ble_eq_true rfl) hn) rfl rfl rfl (fun m7 => ?_)
    exact J_vretV dX9_aPump_56 rfl rfl
def f_X9_areDoors (m : Mm) (a1 : Int32) : Option (Int32) :=
  (f_X9_in a1.toInt64 0 ((((1 : Int32) <<< ((m 113 4) &&& 31)) - (1 : Int32)).toInt64)).bind fun x1 => bG x1
set_option maxHeartbeats 4000000 in
set_option maxRecDepth 100000 in
theorem ct_X9_areDoors (F : Nat) {n : Nat} (hn : 135 ≤ n) (P D : Nat) (T : Option Nat) (m : Mm) (a1 : Int32) : Ct yX9_areDoors cX9_areDoors 2 (some .boolean) 1 25 [.ref 113, .int a1] n n m (RF P D T) (rP m (RF P D T) (f_X9_areDoors m a1)) := by
  refine Ct.ofP (own := RX9) (nm := "areDoors") [(0, .ref 113), (1, .int a1)] (by decide) (Nat.le_of_ble_eq_true rfl) rfl rfl rfl ?_
  unfold f_X9_areDoors
  refine J_iload_n 1 1 a1 dX9_areDoors_0 rfl rfl ?_
  refine J_i2l dX9_areDoors_1 ?_
  refine J_lconst 0 dX9_areDoors_2 (by decide) ?_
  refine J_iconst 1 dX9_areDoors_3 (by decide) ?_
  refine J_aload_n 0 0 113 dX9_areDoors_4 rfl rfl ?_
  refine J_getI 113 9 4 dX9_areDoors_5 fl_9_96 rfl rfl (Nat.lt_of_lt_of_le (Nat.le_of_ble_eq_true rfl) hn) ?_
  refine J_ishl dX9_areDoors_8 ?_
  refine J_iconst 1 dX9_areDoors_9 (by decide) ?_
  refine J_isub dX9_areDoors_10 ?_
  refine J_i2l dX9_areDoors_11 ?_
  refine J_callSP 3 [.long a1.toInt64, .long 0, .long ((((1 : Int32) <<< ((m 113 4) &&& 31)) - (1 : Int32)).toInt64)] dX9_areDoors_12 mv_X9_in mv_X9_ins lk_9_114 (ct_X9_in F hn P D T m a1.toInt64 0 ((((1 : Int32) <<< ((m 113 4) &&& 31)) - (1 : Int32)).toInt64)) rfl ⟨by decide, by decide⟩ (Nat.le_of_ble_eq_true rfl) (fun x1 => ?_)
  exact J_bretP dX9_areDoors_15 rfl rfl
def f_X9_areHolds (m : Mm) (a1 : Int32) : Option (Int32) :=
  (f_X9_in a1.toInt64 0 ((((1 : Int32) <<< ((m 113 2) &&& 31)) - (1 : Int32)).toInt64)).bind fun x1 => bG x1
set_option maxHeartbeats 4000000 in
set_option maxRecDepth 100000 in
theorem ct_X9_areHolds (F : Nat) {n : Nat} (hn : 135 ≤ n) (P D : Nat) (T : Option Nat) (m : Mm) (a1 : Int32) : Ct yX9_areHolds cX9_areHolds 2 (some .boolean) 1 25 [.ref 113, .int a1] n n m (RF P D T) (rP m (RF P D T) (f_X9_areHolds m a1)) := by
  refine Ct.ofP (own := RX9) (nm := "areHolds") [(0, .ref 113), (1, .int a1)] (by decide) (Nat.le_of_ble_eq_true rfl) rfl rfl rfl ?_
  unfold f_X9_areHolds
  refine J_iload_n 1 1 a1 dX9_areHolds_0 rfl rfl ?_
  refine J_i2l dX9_areHolds_1 ?_
  refine J_lconst 0 dX9_areHolds_2 (by decide) ?_
  refine J_iconst 1 dX9_areHolds_3 (by decide) ?_
  refine J_aload_n 0 0 113 dX9_areHolds_4 rfl rfl ?_
  refine J_getI 113 9 2 dX9_areHolds_5 fl_9_93 rfl rfl (Nat.lt_of_lt_of_le (Nat.le_of_ble_eq_true rfl) hn) ?_
  refine J_ishl dX9_areHolds_8 ?_
  refine J_iconst 1 dX9_areHolds_9 (by decide) ?_
  refine J_isub dX9_areHolds_10 ?_
  refine J_i2l dX9_areHolds_11 ?_
  refine J_callSP 3 [.long a1.toInt64, .long 0, .long ((((1 : Int32) <<< ((m 113 2) &&& 31)) - (1 : Int32)).toInt64)] dX9_areHolds_12 mv_X9_in mv_X9_ins lk_9_114 (ct_X9_in F hn P D T m a1.toInt64 0 ((((1 : Int32) <<< ((m 113 2) &&& 31)) - (1 : Int32)).toInt64)) rfl ⟨by decide, by decide⟩ (Nat.le_of_ble_eq_true rfl) (fun x1 => ?_)
  exact J_bretP dX9_areHolds_15 rfl rfl
def b_X9_copies_2 (a1 : Int32) (a2 : Int32) (t1 : Int32 × Mm) : Option ((Int32 × Mm) ⊕ (Mm)) :=
  if (128 : Int32) ≤ t1.1 then (some (Sum.inr t1.2)) else ((ald t1.2 114 512 (a2 + t1.1)).bind fun x3 => (ast t1.2 114 512 (a1 + t1.1) x3).bind fun m4 => some (Sum.inl (t1.1 + 1, m4)))
def f_X9_copies (F : Nat) (m : Mm) (a1 : Int32) (a2 : Int32) : Option (Mm) :=
  (iter F (b_X9_copies_2 a1 a2) ((0, m) : Int32 × Mm)).bind (fun e2 : Mm => some e2)
set_option maxHeartbeats 4000000 in
set_option maxRecDepth 100000 in
theorem ct_X9_copies (F : Nat) {n : Nat} (hn : 135 ≤ n) (P D : Nat) (T : Option Nat) (m : Mm) (a1 : Int32) (a2 : Int32) : Ct yX9_copies cX9_copies 4 none 0 0 [.ref 113, .int a1, .int a2] n n m (RF P D T) (rV (RF P D T) (f_X9_copies F m a1 a2)) := by
  refine Ct.ofV (own := RX9) (nm := "copies") [(0, .ref 113), (1, .int a1), (2, .int a2)] (by decide) (Nat.le_of_ble_eq_true rfl) rfl rfl rfl ?_
  unfold f_X9_copies
  refine J_iconst 0 dX9_copies_0 (by decide) ?_
  refine J_istore_n 3 [(3, .int 0), (0, .ref 113), (1, .int a1), (2, .int a2)] dX9_copies_1 rfl (by decide) rfl ?_
  refine J_lv [1, 2, 3, 0] rfl ?_
  refine J_loop (pc := 2) (fun t1 : Int32 × Mm => [(0, .ref 113), (1, .int a1), (2, .int a2), (3, .int t1.1)]) (fun t1 => t1.2) (fun _ => 31) (fun e2 => []) (fun _ => []) (fun e2 => e2) ?_ (fun t1 k1 hBt1 hXt1 => ?_) F ((0, m))
  · refine fun e2 => ?_
    exact J_vretV dX9_copies_31 rfl rfl
  · unfold b_X9_copies_2
    refine J_iload_n 3 3 t1.1 dX9_copies_2 rfl rfl ?_
    refine J_sipush 128 dX9_copies_3 (by decide) ?_
    refine J_icmp_ge 31 dX9_copies_6 (by decide) ?_ ?_
    · exact J_lv [] rfl (hXt1 t1.2)
    · refine J_aload_n 0 0 113 dX9_copies_9 rfl rfl ?_
      refine J_getR 113 9 0 114 dX9_copies_10 fl_9_7 rfl rfl (Nat.lt_of_lt_of_le (Nat.le_of_ble_eq_true rfl) hn) rfl ?_
      refine J_iload_n 1 1 a1 dX9_copies_13 rfl rfl ?_
      refine J_iload_n 3 3 t1.1 dX9_copies_14 rfl rfl ?_
      refine J_iadd dX9_copies_15 ?_
      refine J_aload_n 0 0 113 dX9_copies_16 rfl rfl ?_
      refine J_getR 113 9 0 114 dX9_copies_17 fl_9_7 rfl rfl (Nat.lt_of_lt_of_le (Nat.le_of_ble_eq_true rfl) hn) rfl ?_
      refine J_iload_n 2 2 a2 dX9_copies_20 rfl rfl ?_
      refine J_iload_n 3 3 t1.1 dX9_copies_21 rfl rfl ?_
      refine J_iadd dX9_copies_22 ?_
      refine J_iald 114 512 dX9_copies_23 rfl (Nat.lt_of_lt_of_le (Nat.le_of_ble_eq_true rfl) hn) (fun x3 => ?_)
      refine J_iast 114 512 dX9_copies_24 rfl (Nat.lt_of_lt_of_le (Nat.le_of_ble_eq_true rfl) hn) (fun m4 => ?_)
      refine J_iinc 3 3 [(3, .int (t1.1 + 1)), (0, .ref 113), (1, .int a1), (2, .int a2)] t1.1 (t1.1 + 1) dX9_copies_25 rfl rfl (by decide) rfl ?_
      refine J_goto 2 dX9_copies_28 (by decide) ?_
      exact J_lv [1, 2, 3, 0] rfl (hBt1 (t1.1 + 1, m4))
def f_X9_back (F : Nat) (m : Mm) (a1 : Int32) : Option (Int32 × Mm) :=
  (f_X9_in a1.toInt64 0 1).bind fun x1 => if x1 = 0 then (some ((-1), m)) else ((ald m 115 2 a1).bind fun x3 => if x3 = 0 then (some ((-2), m)) else ((f_X9_copies F m 0 ((128 : Int32) + ((128 : Int32) * a1))).bind fun m5 => (ald m5 114 512 71).bind fun x6 => some (x6, m5)))
set_option maxHeartbeats 4000000 in
set_option maxRecDepth 100000 in
theorem ct_X9_back (F : Nat) {n : Nat} (hn : 135 ≤ n) (P D : Nat) (T : Option Nat) (m : Mm) (a1 : Int32) : Ct yX9_back cX9_back 2 (some .int) 1 25 [.ref 113, .int a1] n n m (RF P D T) (rI (RF P D T) (f_X9_back F m a1)) := by
  refine Ct.ofI (own := RX9) (nm := "back") [(0, .ref 113), (1, .int a1)] (by decide) (Nat.le_of_ble_eq_true rfl) rfl rfl rfl ?_
  unfold f_X9_back
  refine J_iload_n 1 1 a1 dX9_back_0 rfl rfl ?_
  refine J_i2l dX9_back_1 ?_
  refine J_lconst 0 dX9_back_2 (by decide) ?_
  refine J_lconst 1 dX9_back_3 (by decide) ?_
  refine J_callSP 3 [.long a1.toInt64, .long 0, .long 1] dX9_back_4 mv_X9_in mv_X9_ins lk_9_114 (ct_X9_in F hn P D T m a1.toInt64 0 1) rfl ⟨by decide, by decide⟩ (Nat.le_of_ble_eq_true rfl) (fun x1 => ?_)
  refine J_if_ne 12 dX9_back_7 (by decide) ?_ ?_
  · refine J_aload_n 0 0 113 dX9_back_12 rfl rfl ?_
    refine J_getR 113 9 1 115 dX9_back_13 fl_9_13 rfl rfl (Nat.lt_of_lt_of_le (Nat.le_of_ble_eq_true rfl) hn) rfl ?_
    refine J_iload_n 1 1 a1 dX9_back_16 rfl rfl ?_
    refine J_zald 115 2 dX9_back_17 rfl (Nat.lt_of_lt_of_le (Nat.le_of_ble_eq_true rfl) hn) (fun x3 => ?_)
    refine J_if_ne 24 dX9_back_18 (by decide) ?_ ?_
    · refine J_aload_n 0 0 113 dX9_back_24 rfl rfl ?_
      refine J_iconst 0 dX9_back_25 (by decide) ?_
      refine J_sipush 128 dX9_back_26 (by decide) ?_
      refine J_sipush 128 dX9_back_29 (by decide) ?_
      refine J_iload_n 1 1 a1 dX9_back_32 rfl rfl ?_
      refine J_imul dX9_back_33 ?_
      refine J_iadd dX9_back_34 ?_
      refine J_callVV 113 9 2 [.int 0, .int ((128 : Int32) + ((128 : Int32) * a1))] dX9_back_35 mv_X9_copies mv_X9_copiesv lk_9_261 (ct_X9_copies F hn P D T m 0 ((128 : Int32) + ((128 : Int32) * a1))) rfl rfl (by decide) rfl (Nat.lt_of_lt_of_le (Nat.le_of_ble_eq_true rfl) hn) ⟨by decide, by decide⟩ (Nat.le_of_ble_eq_true rfl) (fun m5 => ?_)
      refine J_aload_n 0 0 113 dX9_back_38 rfl rfl ?_
      refine J_getR 113 9 0 114 dX9_back_39 fl_9_7 rfl rfl (Nat.lt_of_lt_of_le (Nat.le_of_ble_eq_true rfl) hn) rfl ?_
      refine J_bipush 71 dX9_back_42 (by decide) ?_
      refine J_iald 114 512 dX9_back_44 rfl (Nat.lt_of_lt_of_le (Nat.le_of_ble_eq_true rfl) hn) (fun x6 => ?_)
      exact J_iretI dX9_back_45 rfl rfl
    · refine J_bipush (-2) dX9_back_21 (by decide) ?_
      exact J_iretI dX9_back_23 rfl rfl
  · refine J_iconst (-1) dX9_back_10 (by decide) ?_
    exact J_iretI dX9_back_11 rfl rfl
def b_X9_floatsWith_10 (a1 : Int32) (t3 : Int32 × Mm) : Option ((Int32 × Mm) ⊕ (Mm)) :=
  if (t3.2 113 2) ≤ t3.1 then (some (Sum.inr t3.2)) else ((if ((a1 >>> (t3.1 &&& 31)) &&& (1 : Int32)) = (1 : Int32) then ((ald t3.2 116 32 ((4 : Int32) * t3.1)).bind fun x7 => some x7) else ((ald t3.2 114 512 ((0 : Int32) + t3.1)).bind fun x6 => some x6) : Option (Int32)).bind fun y5 => (ast t3.2 114 512 ((384 : Int32) + t3.1) y5).bind fun m8 => some (Sum.inl (t3.1 + 1, m8)))
def f_X9_floatsWith (F : Nat) (m : Mm) (a1 : Int32) : Option (Int32 × Mm) :=
  (f_X9_copies F m 384 0).bind fun m2 => (iter F (b_X9_floatsWith_10 a1) ((0, m2) : Int32 × Mm)).bind (fun e4 : Mm => (f_X9_whySinks F e4 384).bind fun x9 => if x9 = 0 then (some (1, e4)) else (some (0, e4)))
set_option maxHeartbeats 4000000 in
set_option maxRecDepth 100000 in
theorem ct_X9_floatsWith (F : Nat) {n : Nat} (hn : 135 ≤ n) (P D : Nat) (T : Option Nat) (m : Mm) (a1 : Int32) : Ct yX9_floatsWith cX9_floatsWith 3 (some .boolean) 3 64 [.ref 113, .int a1] n n m (RF P D T) (rI (RF P D T) (f_X9_floatsWith F m a1)) := by
  refine Ct.ofI (own := RX9) (nm := "floatsWith") [(0, .ref 113), (1, .int a1)] (by decide) (Nat.le_of_ble_eq_true rfl) rfl rfl rfl ?_
  unfold f_X9_floatsWith
  refine J_aload_n 0 0 113 dX9_floatsWith_0 rfl rfl ?_
  refine J_sipush 384 dX9_floatsWith_1 (by decide) ?_
  refine J_iconst 0 dX9_floatsWith_4 (by decide) ?_
  refine J_callVV 113 9 2 [.int 384, .int 0] dX9_floatsWith_5 mv_X9_copies mv_X9_copiesv lk_9_261 (ct_X9_copies F hn P D T m 384 0) rfl rfl (by decide) rfl (Nat.lt_of_lt_of_le (Nat.le_of_ble_eq_true rfl) hn) ⟨by decide, by decide⟩ (Nat.le_of_ble_eq_true rfl) (fun m2 => ?_)
  refine J_iconst 0 dX9_floatsWith_8 (by decide) ?_
  refine J_istore_n 2 [(2, .int 0), (0, .ref 113), (1, .int a1)] dX9_floatsWith_9 rfl (by decide) rfl ?_
  refine J_lv [1, 2, 0] rfl ?_
  refine J_loop (pc := 10) (fun t3 : Int32 × Mm => [(0, .ref 113), (1, .int a1), (2, .int t3.1)]) (fun t3 => t3.2) (fun _ => 62) (fun e4 => [(0, .ref 113)]) (fun _ => []) (fun e4 => e4) ?_ (fun t3 k1 hBt3 hXt3 => ?_) F ((0, m2))
  · refine fun e4 => ?_
    refine J_aload_n 0 0 113 dX9_floatsWith_62 rfl rfl ?_
    refine J_sipush 384 dX9_floatsWith_63 (by decide) ?_
    refine J_callVP 113 9 1 [.int 384] dX9_floatsWith_66 mv_X9_whySinks mv_X9_whySinksv lk_9_211 (ct_X9_whySinks F hn P D T e4 384) rfl rfl (by decide) rfl (Nat.lt_of_lt_of_le (Nat.le_of_ble_eq_true rfl) hn) ⟨by decide, by decide⟩ (Nat.le_of_ble_eq_true rfl) (fun x9 => ?_)
    refine J_if_ne 76 dX9_floatsWith_69 (by decide) ?_ ?_
    · refine J_iconst 0 dX9_floatsWith_76 (by decide) ?_
      exact J_zretI dX9_floatsWith_77 rfl rfl rfl
    · refine J_iconst 1 dX9_floatsWith_72 (by decide) ?_
      refine J_goto 77 dX9_floatsWith_73 (by decide) ?_
      exact J_zretI dX9_floatsWith_77 rfl rfl rfl
  · unfold b_X9_floatsWith_10
    refine J_iload_n 2 2 t3.1 dX9_floatsWith_10 rfl rfl ?_
    refine J_aload_n 0 0 113 dX9_floatsWith_11 rfl rfl ?_
    refine J_getI 113 9 2 dX9_floatsWith_12 fl_9_93 rfl rfl (Nat.lt_of_lt_of_le (Nat.le_of_ble_eq_true rfl) hn) ?_
    refine J_icmp_ge 62 dX9_floatsWith_15 (by decide) ?_ ?_
    · exact J_lv [0] rfl (hXt3 t3.2)
    · refine J_aload_n 0 0 113 dX9_floatsWith_18 rfl rfl ?_
      refine J_getR 113 9 0 114 dX9_floatsWith_19 fl_9_7 rfl rfl (Nat.lt_of_lt_of_le (Nat.le_of_ble_eq_true rfl) hn) rfl ?_
      refine J_sipush 384 dX9_floatsWith_22 (by decide) ?_
      refine J_iload_n 2 2 t3.1 dX9_floatsWith_25 rfl rfl ?_
      refine J_iadd dX9_floatsWith_26 ?_
      refine J_iload_n 1 1 a1 dX9_floatsWith_27 rfl rfl ?_
      refine J_iload_n 2 2 t3.1 dX9_floatsWith_28 rfl rfl ?_
      refine J_ishr dX9_floatsWith_29 ?_
      refine J_iconst 1 dX9_floatsWith_30 (by decide) ?_
      refine J_iand dX9_floatsWith_31 ?_
      refine J_iconst 1 dX9_floatsWith_32 (by decide) ?_
      refine J_seqJ 55 (fun y5 : Int32 => [(0, .ref 113), (1, .int a1), (2, .int t3.1)]) (fun y5 => [.int y5, .int ((384 : Int32) + t3.1), .ref 114]) (fun y5 => t3.2) (fun y5 => ?_) (fun k1 hEy5 => ?_)
      · refine J_iast 114 512 dX9_floatsWith_55 rfl (Nat.lt_of_lt_of_le (Nat.le_of_ble_eq_true rfl) hn) (fun m8 => ?_)
        refine J_iinc 2 2 [(2, .int (t3.1 + 1)), (0, .ref 113), (1, .int a1)] t3.1 (t3.1 + 1) dX9_floatsWith_56 rfl rfl (by decide) rfl ?_
        refine J_goto 10 dX9_floatsWith_59 (by decide) ?_
        exact J_lv [1, 2, 0] rfl (hBt3 (t3.1 + 1, m8))
      · refine J_icmp_ne 47 dX9_floatsWith_33 (by decide) ?_ ?_
        · refine J_aload_n 0 0 113 dX9_floatsWith_47 rfl rfl ?_
          refine J_getR 113 9 0 114 dX9_floatsWith_48 fl_9_7 rfl rfl (Nat.lt_of_lt_of_le (Nat.le_of_ble_eq_true rfl) hn) rfl ?_
          refine J_iconst 0 dX9_floatsWith_51 (by decide) ?_
          refine J_iload_n 2 2 t3.1 dX9_floatsWith_52 rfl rfl ?_
          refine J_iadd dX9_floatsWith_53 ?_
          refine J_iald 114 512 dX9_floatsWith_54 rfl (Nat.lt_of_lt_of_le (Nat.le_of_ble_eq_true rfl) hn) (fun x6 => ?_)
          exact J_lv [0, 1, 2] rfl (hEy5 x6)
        · refine J_aload_n 0 0 113 dX9_floatsWith_36 rfl rfl ?_
          refine J_getR 113 9 3 116 dX9_floatsWith_37 fl_9_17 rfl rfl (Nat.lt_of_lt_of_le (Nat.le_of_ble_eq_true rfl) hn) rfl ?_
          refine J_iconst 4 dX9_floatsWith_40 (by decide) ?_
          refine J_iload_n 2 2 t3.1 dX9_floatsWith_41 rfl rfl ?_
          refine J_imul dX9_floatsWith_42 ?_
          refine J_iald 116 32 dX9_floatsWith_43 rfl (Nat.lt_of_lt_of_le (Nat.le_of_ble_eq_true rfl) hn) (fun x7 => ?_)
          refine J_goto 55 dX9_floatsWith_44 (by decide) ?_
          exact J_lv [0, 1, 2] rfl (hEy5 x7)
def f_X9_isHold (m : Mm) (a1 : Int32) : Option (Int32) :=
  (f_X9_in a1.toInt64 0 (((m 113 2) - (1 : Int32)).toInt64)).bind fun x1 => bG x1
set_option maxHeartbeats 4000000 in
set_option maxRecDepth 100000 in
theorem ct_X9_isHold (F : Nat) {n : Nat} (hn : 135 ≤ n) (P D : Nat) (T : Option Nat) (m : Mm) (a1 : Int32) : Ct yX9_isHold cX9_isHold 2 (some .boolean) 1 25 [.ref 113, .int a1] n n m (RF P D T) (rP m (RF P D T) (f_X9_isHold m a1)) := by
  refine Ct.ofP (own := RX9) (nm := "isHold") [(0, .ref 113), (1, .int a1)] (by decide) (Nat.le_of_ble_eq_true rfl) rfl rfl rfl ?_
  unfold f_X9_isHold
  refine J_iload_n 1 1 a1 dX9_isHold_0 rfl rfl ?_
  refine J_i2l dX9_isHold_1 ?_
  refine J_lconst 0 dX9_isHold_2 (by decide) ?_
  refine J_aload_n 0 0 113 dX9_isHold_3 rfl rfl ?_
  refine J_getI 113 9 2 dX9_isHold_4 fl_9_93 rfl rfl (Nat.lt_of_lt_of_le (Nat.le_of_ble_eq_true rfl) hn) ?_
  refine J_iconst 1 dX9_isHold_7 (by decide) ?_
  refine J_isub dX9_isHold_8 ?_
  refine J_i2l dX9_isHold_9 ?_
  refine J_callSP 3 [.long a1.toInt64, .long 0, .long (((m 113 2) - (1 : Int32)).toInt64)] dX9_isHold_10 mv_X9_in mv_X9_ins lk_9_114 (ct_X9_in F hn P D T m a1.toInt64 0 (((m 113 2) - (1 : Int32)).toInt64)) rfl ⟨by decide, by decide⟩ (Nat.le_of_ble_eq_true rfl) (fun x1 => ?_)
  exact J_bretP dX9_isHold_13 rfl rfl

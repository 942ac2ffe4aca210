theorem fl_9_32 : FL RX9 32 9 12 := ⟨by decide, by decide, tb 1034 (by decide +kernel) rfl⟩
theorem fl_9_35 : FL RX9 35 9 14 := ⟨by decide, by decide, tb 1036 (by decide +kernel) rfl⟩
theorem fl_9_38 : FL RX9 38 9 16 := ⟨by decide, by decide, tb 1038 (by decide +kernel) rfl⟩
theorem fl_9_80 : FL RX9 80 9 11 := ⟨by decide, by decide, tb 1033 (by decide +kernel) rfl⟩
theorem fl_9_84 : FL RX9 84 9 13 := ⟨by decide, by decide, tb 1035 (by decide +kernel) rfl⟩
theorem fl_9_87 : FL RX9 87 9 15 := ⟨by decide, by decide, tb 1037 (by decide +kernel) rfl⟩
theorem kl_9_141 : Cond.constantLong RX9 141 97 ∈ TBg := tb 1173 (by decide +kernel) rfl
theorem kl_9_143 : Cond.constantLong RX9 143 122 ∈ TBg := tb 1174 (by decide +kernel) rfl
theorem kl_9_145 : Cond.constantLong RX9 145 48 ∈ TBg := tb 1175 (by decide +kernel) rfl
theorem kl_9_147 : Cond.constantLong RX9 147 57 ∈ TBg := tb 1176 (by decide +kernel) rfl
theorem lk_9_156 : Cond.methodLink RX9 156 yX9_isNumber ∈ TBg := tb 1204 (by decide +kernel) rfl
theorem lk_9_160 : Cond.methodLink RX9 160 yX9_next ∈ TBg := tb 1165 (by decide +kernel) rfl
theorem lk_9_163 : Cond.methodLink RX9 163 yX9_readNumber ∈ TBg := tb 1200 (by decide +kernel) rfl
theorem lk_9_167 : Cond.methodLink RX9 167 yX9_readHold ∈ TBg := tb 1212 (by decide +kernel) rfl
theorem lk_9_171 : Cond.methodLink RX9 171 yX9_nameNow ∈ TBg := tb 1185 (by decide +kernel) rfl
theorem lk_9_174 : Cond.methodLink RX9 174 yX9_flag ∈ TBg := tb 1216 (by decide +kernel) rfl
theorem mv_X9_flag : MV yX9_flag cX9_flag 1 (some .int) 1 := ⟨tb 1218 (by decide +kernel) rfl, tb 13 (by decide +kernel) rfl, by decide +kernel⟩
theorem mv_X9_flags : Cond.static yX9_flag ∈ TBg := tb 1217 (by decide +kernel) rfl
theorem mv_X9_isNumber : MV yX9_isNumber cX9_isNumber 3 none 2 := ⟨tb 1207 (by decide +kernel) rfl, tb 13 (by decide +kernel) rfl, by decide +kernel⟩
theorem mv_X9_isNumberv : Cond.instanceMethod yX9_isNumber ∈ TBg ∧ Cond.selects yX9_isNumber.cls yX9_isNumber yX9_isNumber ∈ TBg := ⟨tb 1206 (by decide +kernel) rfl, tbP (k := 42) 58 (by decide +kernel) rfl⟩
theorem mv_X9_nameNow : MV yX9_nameNow cX9_nameNow 1 (some .int) 0 := ⟨tb 1188 (by decide +kernel) rfl, tb 13 (by decide +kernel) rfl, by decide +kernel⟩
theorem mv_X9_nameNowv : Cond.instanceMethod yX9_nameNow ∈ TBg ∧ Cond.selects yX9_nameNow.cls yX9_nameNow yX9_nameNow ∈ TBg := ⟨tb 1187 (by decide +kernel) rfl, tbP (k := 42) 54 (by decide +kernel) rfl⟩
theorem mv_X9_next : MV yX9_next cX9_next 2 none 0 := ⟨tb 1168 (by decide +kernel) rfl, tb 13 (by decide +kernel) rfl, by decide +kernel⟩
theorem mv_X9_nextv : Cond.instanceMethod yX9_next ∈ TBg ∧ Cond.selects yX9_next.cls yX9_next yX9_next ∈ TBg := ⟨tb 1167 (by decide +kernel) rfl, tbP (k := 42) 50 (by decide +kernel) rfl⟩
theorem mv_X9_readHold : MV yX9_readHold cX9_readHold 1 (some .int) 0 := ⟨tb 1215 (by decide +kernel) rfl, tb 13 (by decide +kernel) rfl, by decide +kernel⟩
theorem mv_X9_readHoldv : Cond.instanceMethod yX9_readHold ∈ TBg ∧ Cond.selects yX9_readHold.cls yX9_readHold yX9_readHold ∈ TBg := ⟨tb 1214 (by decide +kernel) rfl, tbP (k := 42) 60 (by decide +kernel) rfl⟩
theorem mv_X9_readNumber : MV yX9_readNumber cX9_readNumber 4 (some .int) 2 := ⟨tb 1203 (by decide +kernel) rfl, tb 13 (by decide +kernel) rfl, by decide +kernel⟩
theorem mv_X9_readNumberv : Cond.instanceMethod yX9_readNumber ∈ TBg ∧ Cond.selects yX9_readNumber.cls yX9_readNumber yX9_readNumber ∈ TBg := ⟨tb 1202 (by decide +kernel) rfl, tbP (k := 42) 57 (by decide +kernel) rfl⟩
theorem dX9_next_0 : decode cX9_next 0 = .ok (.aload_n 0, 1) := by decide +kernel
theorem dX9_next_1 : decode cX9_next 1 = .ok (.getfield 118, 3) := by decide +kernel
theorem dX9_next_4 : decode cX9_next 4 = .ok (.ifCond .le 4, 3) := by decide +kernel
theorem dX9_next_7 : decode cX9_next 7 = .ok (.return_, 1) := by decide +kernel
theorem dX9_next_8 : decode cX9_next 8 = .ok (.aload_n 0, 1) := by decide +kernel
theorem dX9_next_9 : decode cX9_next 9 = .ok (.aload_n 0, 1) := by decide +kernel
theorem dX9_next_10 : decode cX9_next 10 = .ok (.getfield 127, 3) := by decide +kernel
theorem dX9_next_13 : decode cX9_next 13 = .ok (.invokevirtual 130, 3) := by decide +kernel
theorem dX9_next_16 : decode cX9_next 16 = .ok (.bipush 32, 2) := by decide +kernel
theorem dX9_next_18 : decode cX9_next 18 = .ok (.if_icmp .ne 16, 3) := by decide +kernel
theorem dX9_next_21 : decode cX9_next 21 = .ok (.aload_n 0, 1) := by decide +kernel
theorem dX9_next_22 : decode cX9_next 22 = .ok (.dup, 1) := by decide +kernel
theorem dX9_next_23 : decode cX9_next 23 = .ok (.getfield 127, 3) := by decide +kernel
theorem dX9_next_26 : decode cX9_next 26 = .ok (.iconst 1, 1) := by decide +kernel
theorem dX9_next_27 : decode cX9_next 27 = .ok (.iadd, 1) := by decide +kernel
theorem dX9_next_28 : decode cX9_next 28 = .ok (.putfield 127, 3) := by decide +kernel
theorem dX9_next_31 : decode cX9_next 31 = .ok (.goto (-23), 3) := by decide +kernel
theorem dX9_next_34 : decode cX9_next 34 = .ok (.aload_n 0, 1) := by decide +kernel
theorem dX9_next_35 : decode cX9_next 35 = .ok (.aload_n 0, 1) := by decide +kernel
theorem dX9_next_36 : decode cX9_next 36 = .ok (.getfield 127, 3) := by decide +kernel
theorem dX9_next_39 : decode cX9_next 39 = .ok (.putfield 121, 3) := by decide +kernel
theorem dX9_next_42 : decode cX9_next 42 = .ok (.aload_n 0, 1) := by decide +kernel
theorem dX9_next_43 : decode cX9_next 43 = .ok (.aload_n 0, 1) := by decide +kernel
theorem dX9_next_44 : decode cX9_next 44 = .ok (.getfield 127, 3) := by decide +kernel
theorem dX9_next_47 : decode cX9_next 47 = .ok (.invokevirtual 130, 3) := by decide +kernel
theorem dX9_next_50 : decode cX9_next 50 = .ok (.istore_n 1, 1) := by decide +kernel
theorem dX9_next_51 : decode cX9_next 51 = .ok (.iload_n 1, 1) := by decide +kernel
theorem dX9_next_52 : decode cX9_next 52 = .ok (.ifCond .ge 11, 3) := by decide +kernel
theorem dX9_next_55 : decode cX9_next 55 = .ok (.aload_n 0, 1) := by decide +kernel
theorem dX9_next_56 : decode cX9_next 56 = .ok (.iconst 0, 1) := by decide +kernel
theorem dX9_next_57 : decode cX9_next 57 = .ok (.putfield 138, 3) := by decide +kernel
theorem dX9_next_60 : decode cX9_next 60 = .ok (.goto 214, 3) := by decide +kernel
theorem dX9_next_63 : decode cX9_next 63 = .ok (.iload_n 1, 1) := by decide +kernel
theorem dX9_next_64 : decode cX9_next 64 = .ok (.i2l, 1) := by decide +kernel
theorem dX9_next_65 : decode cX9_next 65 = .ok (.ldc2_w 141, 3) := by decide +kernel
theorem dX9_next_68 : decode cX9_next 68 = .ok (.ldc2_w 143, 3) := by decide +kernel
theorem dX9_next_71 : decode cX9_next 71 = .ok (.invokestatic 114, 3) := by decide +kernel
theorem dX9_next_74 : decode cX9_next 74 = .ok (.ifCond .eq 42, 3) := by decide +kernel
theorem dX9_next_77 : decode cX9_next 77 = .ok (.aload_n 0, 1) := by decide +kernel
theorem dX9_next_78 : decode cX9_next 78 = .ok (.iconst 1, 1) := by decide +kernel
theorem dX9_next_79 : decode cX9_next 79 = .ok (.putfield 138, 3) := by decide +kernel
theorem dX9_next_82 : decode cX9_next 82 = .ok (.aload_n 0, 1) := by decide +kernel
theorem dX9_next_83 : decode cX9_next 83 = .ok (.aload_n 0, 1) := by decide +kernel
theorem dX9_next_84 : decode cX9_next 84 = .ok (.getfield 127, 3) := by decide +kernel
theorem dX9_next_87 : decode cX9_next 87 = .ok (.invokevirtual 130, 3) := by decide +kernel
theorem dX9_next_90 : decode cX9_next 90 = .ok (.i2l, 1) := by decide +kernel
theorem dX9_next_91 : decode cX9_next 91 = .ok (.ldc2_w 141, 3) := by decide +kernel
theorem dX9_next_94 : decode cX9_next 94 = .ok (.ldc2_w 143, 3) := by decide +kernel
theorem dX9_next_97 : decode cX9_next 97 = .ok (.invokestatic 114, 3) := by decide +kernel
theorem dX9_next_100 : decode cX9_next 100 = .ok (.ifCond .eq 174, 3) := by decide +kernel
theorem dX9_next_103 : decode cX9_next 103 = .ok (.aload_n 0, 1) := by decide +kernel
theorem dX9_next_104 : decode cX9_next 104 = .ok (.dup, 1) := by decide +kernel
theorem dX9_next_105 : decode cX9_next 105 = .ok (.getfield 127, 3) := by decide +kernel
theorem dX9_next_108 : decode cX9_next 108 = .ok (.iconst 1, 1) := by decide +kernel
theorem dX9_next_109 : decode cX9_next 109 = .ok (.iadd, 1) := by decide +kernel
theorem dX9_next_110 : decode cX9_next 110 = .ok (.putfield 127, 3) := by decide +kernel
theorem dX9_next_113 : decode cX9_next 113 = .ok (.goto (-31), 3) := by decide +kernel
theorem dX9_next_116 : decode cX9_next 116 = .ok (.iload_n 1, 1) := by decide +kernel
theorem dX9_next_117 : decode cX9_next 117 = .ok (.i2l, 1) := by decide +kernel
theorem dX9_next_118 : decode cX9_next 118 = .ok (.ldc2_w 145, 3) := by decide +kernel
theorem dX9_next_121 : decode cX9_next 121 = .ok (.ldc2_w 147, 3) := by decide +kernel
theorem dX9_next_124 : decode cX9_next 124 = .ok (.invokestatic 114, 3) := by decide +kernel
theorem dX9_next_127 : decode cX9_next 127 = .ok (.ifCond .eq 116, 3) := by decide +kernel
theorem dX9_next_130 : decode cX9_next 130 = .ok (.aload_n 0, 1) := by decide +kernel
theorem dX9_next_131 : decode cX9_next 131 = .ok (.iconst 2, 1) := by decide +kernel
theorem dX9_next_132 : decode cX9_next 132 = .ok (.putfield 138, 3) := by decide +kernel
theorem dX9_next_135 : decode cX9_next 135 = .ok (.aload_n 0, 1) := by decide +kernel
theorem dX9_next_136 : decode cX9_next 136 = .ok (.iconst 0, 1) := by decide +kernel
theorem dX9_next_137 : decode cX9_next 137 = .ok (.putfield 149, 3) := by decide +kernel
theorem dX9_next_140 : decode cX9_next 140 = .ok (.aload_n 0, 1) := by decide +kernel
theorem dX9_next_141 : decode cX9_next 141 = .ok (.aload_n 0, 1) := by decide +kernel
theorem dX9_next_142 : decode cX9_next 142 = .ok (.getfield 127, 3) := by decide +kernel
theorem dX9_next_145 : decode cX9_next 145 = .ok (.invokevirtual 130, 3) := by decide +kernel
theorem dX9_next_148 : decode cX9_next 148 = .ok (.i2l, 1) := by decide +kernel
theorem dX9_next_149 : decode cX9_next 149 = .ok (.ldc2_w 145, 3) := by decide +kernel
theorem dX9_next_152 : decode cX9_next 152 = .ok (.ldc2_w 147, 3) := by decide +kernel
theorem dX9_next_155 : decode cX9_next 155 = .ok (.invokestatic 114, 3) := by decide +kernel
theorem dX9_next_158 : decode cX9_next 158 = .ok (.ifCond .eq 59, 3) := by decide +kernel
theorem dX9_next_161 : decode cX9_next 161 = .ok (.aload_n 0, 1) := by decide +kernel
theorem dX9_next_162 : decode cX9_next 162 = .ok (.aload_n 0, 1) := by decide +kernel
theorem dX9_next_163 : decode cX9_next 163 = .ok (.getfield 127, 3) := by decide +kernel
theorem dX9_next_166 : decode cX9_next 166 = .ok (.aload_n 0, 1) := by decide +kernel
theorem dX9_next_167 : decode cX9_next 167 = .ok (.getfield 121, 3) := by decide +kernel
theorem dX9_next_170 : decode cX9_next 170 = .ok (.isub, 1) := by decide +kernel
theorem dX9_next_171 : decode cX9_next 171 = .ok (.iconst 3, 1) := by decide +kernel
theorem dX9_next_172 : decode cX9_next 172 = .ok (.if_icmp .ge 25, 3) := by decide +kernel
theorem dX9_next_175 : decode cX9_next 175 = .ok (.bipush 10, 2) := by decide +kernel
theorem dX9_next_177 : decode cX9_next 177 = .ok (.aload_n 0, 1) := by decide +kernel
theorem dX9_next_178 : decode cX9_next 178 = .ok (.getfield 149, 3) := by decide +kernel
theorem dX9_next_181 : decode cX9_next 181 = .ok (.imul, 1) := by decide +kernel
theorem dX9_next_182 : decode cX9_next 182 = .ok (.aload_n 0, 1) := by decide +kernel
theorem dX9_next_183 : decode cX9_next 183 = .ok (.aload_n 0, 1) := by decide +kernel
theorem dX9_next_184 : decode cX9_next 184 = .ok (.getfield 127, 3) := by decide +kernel
theorem dX9_next_187 : decode cX9_next 187 = .ok (.invokevirtual 130, 3) := by decide +kernel
theorem dX9_next_190 : decode cX9_next 190 = .ok (.iadd, 1) := by decide +kernel
theorem dX9_next_191 : decode cX9_next 191 = .ok (.bipush 48, 2) := by decide +kernel
theorem dX9_next_193 : decode cX9_next 193 = .ok (.isub, 1) := by decide +kernel
theorem dX9_next_194 : decode cX9_next 194 = .ok (.goto 7, 3) := by decide +kernel
theorem dX9_next_197 : decode cX9_next 197 = .ok (.aload_n 0, 1) := by decide +kernel
theorem dX9_next_198 : decode cX9_next 198 = .ok (.getfield 149, 3) := by decide +kernel
theorem dX9_next_201 : decode cX9_next 201 = .ok (.putfield 149, 3) := by decide +kernel
theorem dX9_next_204 : decode cX9_next 204 = .ok (.aload_n 0, 1) := by decide +kernel
theorem dX9_next_205 : decode cX9_next 205 = .ok (.dup, 1) := by decide +kernel
theorem dX9_next_206 : decode cX9_next 206 = .ok (.getfield 127, 3) := by decide +kernel
theorem dX9_next_209 : decode cX9_next 209 = .ok (.iconst 1, 1) := by decide +kernel
theorem dX9_next_210 : decode cX9_next 210 = .ok (.iadd, 1) := by decide +kernel
theorem dX9_next_211 : decode cX9_next 211 = .ok (.putfield 127, 3) := by decide +kernel
theorem dX9_next_214 : decode cX9_next 214 = .ok (.goto (-74), 3) := by decide +kernel
theorem dX9_next_217 : decode cX9_next 217 = .ok (.aload_n 0, 1) := by decide +kernel
theorem dX9_next_218 : decode cX9_next 218 = .ok (.aload_n 0, 1) := by decide +kernel
theorem dX9_next_219 : decode cX9_next 219 = .ok (.getfield 127, 3) := by decide +kernel
theorem dX9_next_222 : decode cX9_next 222 = .ok (.aload_n 0, 1) := by decide +kernel
theorem dX9_next_223 : decode cX9_next 223 = .ok (.getfield 121, 3) := by decide +kernel
theorem dX9_next_226 : decode cX9_next 226 = .ok (.isub, 1) := by decide +kernel
theorem dX9_next_227 : decode cX9_next 227 = .ok (.iconst 3, 1) := by decide +kernel
theorem dX9_next_228 : decode cX9_next 228 = .ok (.if_icmp .gt 7, 3) := by decide +kernel
theorem dX9_next_231 : decode cX9_next 231 = .ok (.iconst 1, 1) := by decide +kernel
theorem dX9_next_232 : decode cX9_next 232 = .ok (.goto 4, 3) := by decide +kernel
theorem dX9_next_235 : decode cX9_next 235 = .ok (.iconst 0, 1) := by decide +kernel
theorem dX9_next_236 : decode cX9_next 236 = .ok (.iconst 1, 1) := by decide +kernel
theorem dX9_next_237 : decode cX9_next 237 = .ok (.invokevirtual 152, 3) := by decide +kernel
theorem dX9_next_240 : decode cX9_next 240 = .ok (.goto 34, 3) := by decide +kernel
theorem dX9_next_243 : decode cX9_next 243 = .ok (.aload_n 0, 1) := by decide +kernel
theorem dX9_next_244 : decode cX9_next 244 = .ok (.iconst 3, 1) := by decide +kernel
theorem dX9_next_245 : decode cX9_next 245 = .ok (.putfield 138, 3) := by decide +kernel
theorem dX9_next_248 : decode cX9_next 248 = .ok (.aload_n 0, 1) := by decide +kernel
theorem dX9_next_249 : decode cX9_next 249 = .ok (.iload_n 1, 1) := by decide +kernel
theorem dX9_next_250 : decode cX9_next 250 = .ok (.bipush 59, 2) := by decide +kernel
theorem dX9_next_252 : decode cX9_next 252 = .ok (.if_icmp .ne 7, 3) := by decide +kernel
theorem dX9_next_255 : decode cX9_next 255 = .ok (.iconst 1, 1) := by decide +kernel
theorem dX9_next_256 : decode cX9_next 256 = .ok (.goto 4, 3) := by decide +kernel
theorem dX9_next_259 : decode cX9_next 259 = .ok (.iconst 0, 1) := by decide +kernel
theorem dX9_next_260 : decode cX9_next 260 = .ok (.iconst 1, 1) := by decide +kernel
theorem dX9_next_261 : decode cX9_next 261 = .ok (.invokevirtual 152, 3) := by decide +kernel
theorem dX9_next_264 : decode cX9_next 264 = .ok (.aload_n 0, 1) := by decide +kernel
theorem dX9_next_265 : decode cX9_next 265 = .ok (.dup, 1) := by decide +kernel
theorem dX9_next_266 : decode cX9_next 266 = .ok (.getfield 127, 3) := by decide +kernel
theorem dX9_next_269 : decode cX9_next 269 = .ok (.iconst 1, 1) := by decide +kernel
theorem dX9_next_270 : decode cX9_next 270 = .ok (.iadd, 1) := by decide +kernel
theorem dX9_next_271 : decode cX9_next 271 = .ok (.putfield 127, 3) := by decide +kernel
theorem dX9_next_274 : decode cX9_next 274 = .ok (.return_, 1) := by decide +kernel
theorem dX9_readNumber_0 : decode cX9_readNumber 0 = .ok (.aload_n 0, 1) := by decide +kernel
theorem dX9_readNumber_1 : decode cX9_readNumber 1 = .ok (.iload_n 1, 1) := by decide +kernel
theorem dX9_readNumber_2 : decode cX9_readNumber 2 = .ok (.iload_n 2, 1) := by decide +kernel
theorem dX9_readNumber_3 : decode cX9_readNumber 3 = .ok (.invokevirtual 156, 3) := by decide +kernel
theorem dX9_readNumber_6 : decode cX9_readNumber 6 = .ok (.aload_n 0, 1) := by decide +kernel
theorem dX9_readNumber_7 : decode cX9_readNumber 7 = .ok (.getfield 149, 3) := by decide +kernel
theorem dX9_readNumber_10 : decode cX9_readNumber 10 = .ok (.istore_n 3, 1) := by decide +kernel
theorem dX9_readNumber_11 : decode cX9_readNumber 11 = .ok (.aload_n 0, 1) := by decide +kernel
theorem dX9_readNumber_12 : decode cX9_readNumber 12 = .ok (.invokevirtual 160, 3) := by decide +kernel
theorem dX9_readNumber_15 : decode cX9_readNumber 15 = .ok (.iload_n 3, 1) := by decide +kernel
theorem dX9_readNumber_16 : decode cX9_readNumber 16 = .ok (.ireturn, 1) := by decide +kernel
theorem dX9_readHold_0 : decode cX9_readHold 0 = .ok (.aload_n 0, 1) := by decide +kernel
theorem dX9_readHold_1 : decode cX9_readHold 1 = .ok (.iconst 0, 1) := by decide +kernel
theorem dX9_readHold_2 : decode cX9_readHold 2 = .ok (.aload_n 0, 1) := by decide +kernel
theorem dX9_readHold_3 : decode cX9_readHold 3 = .ok (.getfield 80, 3) := by decide +kernel
theorem dX9_readHold_6 : decode cX9_readHold 6 = .ok (.iconst 1, 1) := by decide +kernel
theorem dX9_readHold_7 : decode cX9_readHold 7 = .ok (.isub, 1) := by decide +kernel
theorem dX9_readHold_8 : decode cX9_readHold 8 = .ok (.invokevirtual 163, 3) := by decide +kernel
theorem dX9_readHold_11 : decode cX9_readHold 11 = .ok (.ireturn, 1) := by decide +kernel
theorem dX9_aDoor_0 : decode cX9_aDoor 0 = .ok (.bipush 6, 2) := by decide +kernel
theorem dX9_aDoor_2 : decode cX9_aDoor 2 = .ok (.aload_n 0, 1) := by decide +kernel
theorem dX9_aDoor_3 : decode cX9_aDoor 3 = .ok (.getfield 84, 3) := by decide +kernel
theorem dX9_aDoor_6 : decode cX9_aDoor 6 = .ok (.imul, 1) := by decide +kernel
theorem dX9_aDoor_7 : decode cX9_aDoor 7 = .ok (.istore_n 1, 1) := by decide +kernel
theorem dX9_aDoor_8 : decode cX9_aDoor 8 = .ok (.aload_n 0, 1) := by decide +kernel
theorem dX9_aDoor_9 : decode cX9_aDoor 9 = .ok (.invokevirtual 167, 3) := by decide +kernel
theorem dX9_aDoor_12 : decode cX9_aDoor 12 = .ok (.istore_n 2, 1) := by decide +kernel
theorem dX9_aDoor_13 : decode cX9_aDoor 13 = .ok (.aload_n 0, 1) := by decide +kernel
theorem dX9_aDoor_14 : decode cX9_aDoor 14 = .ok (.iconst 0, 1) := by decide +kernel
theorem dX9_aDoor_15 : decode cX9_aDoor 15 = .ok (.aload_n 0, 1) := by decide +kernel
theorem dX9_aDoor_16 : decode cX9_aDoor 16 = .ok (.getfield 80, 3) := by decide +kernel
theorem dX9_aDoor_19 : decode cX9_aDoor 19 = .ok (.iconst 1, 1) := by decide +kernel
theorem dX9_aDoor_20 : decode cX9_aDoor 20 = .ok (.isub, 1) := by decide +kernel
theorem dX9_aDoor_21 : decode cX9_aDoor 21 = .ok (.invokevirtual 156, 3) := by decide +kernel
theorem dX9_aDoor_24 : decode cX9_aDoor 24 = .ok (.aload_n 0, 1) := by decide +kernel
theorem dX9_aDoor_25 : decode cX9_aDoor 25 = .ok (.getfield 149, 3) := by decide +kernel
theorem dX9_aDoor_28 : decode cX9_aDoor 28 = .ok (.istore_n 3, 1) := by decide +kernel
theorem dX9_aDoor_29 : decode cX9_aDoor 29 = .ok (.aload_n 0, 1) := by decide +kernel
theorem dX9_aDoor_30 : decode cX9_aDoor 30 = .ok (.getfield 118, 3) := by decide +kernel
theorem dX9_aDoor_33 : decode cX9_aDoor 33 = .ok (.ifCond .ne 18, 3) := by decide +kernel
theorem dX9_aDoor_36 : decode cX9_aDoor 36 = .ok (.aload_n 0, 1) := by decide +kernel
theorem dX9_aDoor_37 : decode cX9_aDoor 37 = .ok (.iload_n 2, 1) := by decide +kernel
theorem dX9_aDoor_38 : decode cX9_aDoor 38 = .ok (.iload_n 3, 1) := by decide +kernel
theorem dX9_aDoor_39 : decode cX9_aDoor 39 = .ok (.if_icmp .eq 7, 3) := by decide +kernel
theorem dX9_aDoor_42 : decode cX9_aDoor 42 = .ok (.iconst 1, 1) := by decide +kernel
theorem dX9_aDoor_43 : decode cX9_aDoor 43 = .ok (.goto 4, 3) := by decide +kernel
theorem dX9_aDoor_46 : decode cX9_aDoor 46 = .ok (.iconst 0, 1) := by decide +kernel
theorem dX9_aDoor_47 : decode cX9_aDoor 47 = .ok (.iconst 3, 1) := by decide +kernel
theorem dX9_aDoor_48 : decode cX9_aDoor 48 = .ok (.invokevirtual 152, 3) := by decide +kernel
theorem dX9_aDoor_51 : decode cX9_aDoor 51 = .ok (.aload_n 0, 1) := by decide +kernel
theorem dX9_aDoor_52 : decode cX9_aDoor 52 = .ok (.invokevirtual 160, 3) := by decide +kernel
theorem dX9_aDoor_55 : decode cX9_aDoor 55 = .ok (.aload_n 0, 1) := by decide +kernel
theorem dX9_aDoor_56 : decode cX9_aDoor 56 = .ok (.iconst 0, 1) := by decide +kernel
theorem dX9_aDoor_57 : decode cX9_aDoor 57 = .ok (.bipush 12, 2) := by decide +kernel
theorem dX9_aDoor_59 : decode cX9_aDoor 59 = .ok (.invokevirtual 163, 3) := by decide +kernel
theorem dX9_aDoor_62 : decode cX9_aDoor 62 = .ok (.istore 4, 2) := by decide +kernel
theorem dX9_aDoor_64 : decode cX9_aDoor 64 = .ok (.aload_n 0, 1) := by decide +kernel
theorem dX9_aDoor_65 : decode cX9_aDoor 65 = .ok (.iconst 1, 1) := by decide +kernel
theorem dX9_aDoor_66 : decode cX9_aDoor 66 = .ok (.bipush 9, 2) := by decide +kernel
theorem dX9_aDoor_68 : decode cX9_aDoor 68 = .ok (.invokevirtual 163, 3) := by decide +kernel
theorem dX9_aDoor_71 : decode cX9_aDoor 71 = .ok (.istore 5, 2) := by decide +kernel
theorem dX9_aDoor_73 : decode cX9_aDoor 73 = .ok (.aload_n 0, 1) := by decide +kernel
theorem dX9_aDoor_74 : decode cX9_aDoor 74 = .ok (.iconst 1, 1) := by decide +kernel
theorem dX9_aDoor_75 : decode cX9_aDoor 75 = .ok (.bipush 9, 2) := by decide +kernel
theorem dX9_aDoor_77 : decode cX9_aDoor 77 = .ok (.invokevirtual 163, 3) := by decide +kernel
theorem dX9_aDoor_80 : decode cX9_aDoor 80 = .ok (.istore 6, 2) := by decide +kernel
theorem dX9_aDoor_82 : decode cX9_aDoor 82 = .ok (.aload_n 0, 1) := by decide +kernel
theorem dX9_aDoor_83 : decode cX9_aDoor 83 = .ok (.getfield 118, 3) := by decide +kernel
theorem dX9_aDoor_86 : decode cX9_aDoor 86 = .ok (.ifCond .ne 24, 3) := by decide +kernel
theorem dX9_aDoor_89 : decode cX9_aDoor 89 = .ok (.aload_n 0, 1) := by decide +kernel
theorem dX9_aDoor_90 : decode cX9_aDoor 90 = .ok (.getfield 138, 3) := by decide +kernel
theorem dX9_aDoor_93 : decode cX9_aDoor 93 = .ok (.iconst 1, 1) := by decide +kernel
theorem dX9_aDoor_94 : decode cX9_aDoor 94 = .ok (.if_icmp .ne 16, 3) := by decide +kernel
theorem dX9_aDoor_97 : decode cX9_aDoor 97 = .ok (.aload_n 0, 1) := by decide +kernel
theorem dX9_aDoor_98 : decode cX9_aDoor 98 = .ok (.invokevirtual 171, 3) := by decide +kernel
theorem dX9_aDoor_101 : decode cX9_aDoor 101 = .ok (.bipush 14, 2) := by decide +kernel
theorem dX9_aDoor_103 : decode cX9_aDoor 103 = .ok (.if_icmp .ne 7, 3) := by decide +kernel
theorem dX9_aDoor_106 : decode cX9_aDoor 106 = .ok (.iconst 1, 1) := by decide +kernel
theorem dX9_aDoor_107 : decode cX9_aDoor 107 = .ok (.goto 4, 3) := by decide +kernel
theorem dX9_aDoor_110 : decode cX9_aDoor 110 = .ok (.iconst 0, 1) := by decide +kernel
theorem dX9_aDoor_111 : decode cX9_aDoor 111 = .ok (.istore 7, 2) := by decide +kernel
theorem dX9_aDoor_113 : decode cX9_aDoor 113 = .ok (.iload 7, 2) := by decide +kernel
theorem dX9_aDoor_115 : decode cX9_aDoor 115 = .ok (.ifCond .eq 7, 3) := by decide +kernel
theorem dX9_aDoor_118 : decode cX9_aDoor 118 = .ok (.aload_n 0, 1) := by decide +kernel
theorem dX9_aDoor_119 : decode cX9_aDoor 119 = .ok (.invokevirtual 160, 3) := by decide +kernel
theorem dX9_aDoor_122 : decode cX9_aDoor 122 = .ok (.aload_n 0, 1) := by decide +kernel
theorem dX9_aDoor_123 : decode cX9_aDoor 123 = .ok (.getfield 118, 3) := by decide +kernel
theorem dX9_aDoor_126 : decode cX9_aDoor 126 = .ok (.ifCond .ne 80, 3) := by decide +kernel
theorem dX9_aDoor_129 : decode cX9_aDoor 129 = .ok (.aload_n 0, 1) := by decide +kernel
theorem dX9_aDoor_130 : decode cX9_aDoor 130 = .ok (.getfield 35, 3) := by decide +kernel
theorem dX9_aDoor_133 : decode cX9_aDoor 133 = .ok (.iload_n 1, 1) := by decide +kernel
theorem dX9_aDoor_134 : decode cX9_aDoor 134 = .ok (.iload_n 2, 1) := by decide +kernel
theorem dX9_aDoor_135 : decode cX9_aDoor 135 = .ok (.iastore, 1) := by decide +kernel
theorem dX9_aDoor_136 : decode cX9_aDoor 136 = .ok (.aload_n 0, 1) := by decide +kernel
theorem dX9_aDoor_137 : decode cX9_aDoor 137 = .ok (.getfield 35, 3) := by decide +kernel
theorem dX9_aDoor_140 : decode cX9_aDoor 140 = .ok (.iload_n 1, 1) := by decide +kernel
theorem dX9_aDoor_141 : decode cX9_aDoor 141 = .ok (.iconst 1, 1) := by decide +kernel
theorem dX9_aDoor_142 : decode cX9_aDoor 142 = .ok (.iadd, 1) := by decide +kernel
theorem dX9_aDoor_143 : decode cX9_aDoor 143 = .ok (.iload_n 3, 1) := by decide +kernel
theorem dX9_aDoor_144 : decode cX9_aDoor 144 = .ok (.iastore, 1) := by decide +kernel
theorem dX9_aDoor_145 : decode cX9_aDoor 145 = .ok (.aload_n 0, 1) := by decide +kernel
theorem dX9_aDoor_146 : decode cX9_aDoor 146 = .ok (.getfield 35, 3) := by decide +kernel
theorem dX9_aDoor_149 : decode cX9_aDoor 149 = .ok (.iload_n 1, 1) := by decide +kernel
theorem dX9_aDoor_150 : decode cX9_aDoor 150 = .ok (.iconst 2, 1) := by decide +kernel
theorem dX9_aDoor_151 : decode cX9_aDoor 151 = .ok (.iadd, 1) := by decide +kernel
theorem dX9_aDoor_152 : decode cX9_aDoor 152 = .ok (.iload 4, 2) := by decide +kernel
theorem dX9_aDoor_154 : decode cX9_aDoor 154 = .ok (.iastore, 1) := by decide +kernel
theorem dX9_aDoor_155 : decode cX9_aDoor 155 = .ok (.aload_n 0, 1) := by decide +kernel
theorem dX9_aDoor_156 : decode cX9_aDoor 156 = .ok (.getfield 35, 3) := by decide +kernel
theorem dX9_aDoor_159 : decode cX9_aDoor 159 = .ok (.iload_n 1, 1) := by decide +kernel
theorem dX9_aDoor_160 : decode cX9_aDoor 160 = .ok (.iconst 3, 1) := by decide +kernel
theorem dX9_aDoor_161 : decode cX9_aDoor 161 = .ok (.iadd, 1) := by decide +kernel
theorem dX9_aDoor_162 : decode cX9_aDoor 162 = .ok (.iload 5, 2) := by decide +kernel
theorem dX9_aDoor_164 : decode cX9_aDoor 164 = .ok (.iastore, 1) := by decide +kernel
theorem dX9_aDoor_165 : decode cX9_aDoor 165 = .ok (.aload_n 0, 1) := by decide +kernel
theorem dX9_aDoor_166 : decode cX9_aDoor 166 = .ok (.getfield 35, 3) := by decide +kernel
theorem dX9_aDoor_169 : decode cX9_aDoor 169 = .ok (.iload_n 1, 1) := by decide +kernel
theorem dX9_aDoor_170 : decode cX9_aDoor 170 = .ok (.iconst 4, 1) := by decide +kernel
theorem dX9_aDoor_171 : decode cX9_aDoor 171 = .ok (.iadd, 1) := by decide +kernel
theorem dX9_aDoor_172 : decode cX9_aDoor 172 = .ok (.iload 6, 2) := by decide +kernel
theorem dX9_aDoor_174 : decode cX9_aDoor 174 = .ok (.iastore, 1) := by decide +kernel
theorem dX9_aDoor_175 : decode cX9_aDoor 175 = .ok (.aload_n 0, 1) := by decide +kernel
theorem dX9_aDoor_176 : decode cX9_aDoor 176 = .ok (.getfield 35, 3) := by decide +kernel
theorem dX9_aDoor_179 : decode cX9_aDoor 179 = .ok (.iload_n 1, 1) := by decide +kernel
theorem dX9_aDoor_180 : decode cX9_aDoor 180 = .ok (.iconst 5, 1) := by decide +kernel
theorem dX9_aDoor_181 : decode cX9_aDoor 181 = .ok (.iadd, 1) := by decide +kernel
theorem dX9_aDoor_182 : decode cX9_aDoor 182 = .ok (.iload 7, 2) := by decide +kernel
theorem dX9_aDoor_184 : decode cX9_aDoor 184 = .ok (.ifCond .ne 7, 3) := by decide +kernel
theorem dX9_aDoor_187 : decode cX9_aDoor 187 = .ok (.iconst 1, 1) := by decide +kernel
theorem dX9_aDoor_188 : decode cX9_aDoor 188 = .ok (.goto 4, 3) := by decide +kernel
theorem dX9_aDoor_191 : decode cX9_aDoor 191 = .ok (.iconst 0, 1) := by decide +kernel
theorem dX9_aDoor_192 : decode cX9_aDoor 192 = .ok (.invokestatic 174, 3) := by decide +kernel
theorem dX9_aDoor_195 : decode cX9_aDoor 195 = .ok (.iastore, 1) := by decide +kernel
theorem dX9_aDoor_196 : decode cX9_aDoor 196 = .ok (.aload_n 0, 1) := by decide +kernel
theorem dX9_aDoor_197 : decode cX9_aDoor 197 = .ok (.dup, 1) := by decide +kernel
theorem dX9_aDoor_198 : decode cX9_aDoor 198 = .ok (.getfield 84, 3) := by decide +kernel
theorem dX9_aDoor_201 : decode cX9_aDoor 201 = .ok (.iconst 1, 1) := by decide +kernel
theorem dX9_aDoor_202 : decode cX9_aDoor 202 = .ok (.iadd, 1) := by decide +kernel
theorem dX9_aDoor_203 : decode cX9_aDoor 203 = .ok (.putfield 84, 3) := by decide +kernel
theorem dX9_aDoor_206 : decode cX9_aDoor 206 = .ok (.return_, 1) := by decide +kernel
theorem dX9_aHold_0 : decode cX9_aHold 0 = .ok (.iconst 4, 1) := by decide +kernel
theorem dX9_aHold_1 : decode cX9_aHold 1 = .ok (.aload_n 0, 1) := by decide +kernel
theorem dX9_aHold_2 : decode cX9_aHold 2 = .ok (.getfield 80, 3) := by decide +kernel
theorem dX9_aHold_5 : decode cX9_aHold 5 = .ok (.imul, 1) := by decide +kernel
theorem dX9_aHold_6 : decode cX9_aHold 6 = .ok (.istore_n 1, 1) := by decide +kernel
theorem dX9_aHold_7 : decode cX9_aHold 7 = .ok (.aload_n 0, 1) := by decide +kernel
theorem dX9_aHold_8 : decode cX9_aHold 8 = .ok (.iconst 1, 1) := by decide +kernel
theorem dX9_aHold_9 : decode cX9_aHold 9 = .ok (.bipush 99, 2) := by decide +kernel
theorem dX9_aHold_11 : decode cX9_aHold 11 = .ok (.invokevirtual 163, 3) := by decide +kernel
theorem dX9_aHold_14 : decode cX9_aHold 14 = .ok (.istore_n 2, 1) := by decide +kernel
theorem dX9_aHold_15 : decode cX9_aHold 15 = .ok (.aload_n 0, 1) := by decide +kernel
theorem dX9_aHold_16 : decode cX9_aHold 16 = .ok (.iconst 0, 1) := by decide +kernel
theorem dX9_aHold_17 : decode cX9_aHold 17 = .ok (.iconst 2, 1) := by decide +kernel
theorem dX9_aHold_18 : decode cX9_aHold 18 = .ok (.invokevirtual 163, 3) := by decide +kernel
theorem dX9_aHold_21 : decode cX9_aHold 21 = .ok (.istore_n 3, 1) := by decide +kernel
theorem dX9_aHold_22 : decode cX9_aHold 22 = .ok (.aload_n 0, 1) := by decide +kernel
theorem dX9_aHold_23 : decode cX9_aHold 23 = .ok (.iconst 0, 1) := by decide +kernel
theorem dX9_aHold_24 : decode cX9_aHold 24 = .ok (.bipush 18, 2) := by decide +kernel
theorem dX9_aHold_26 : decode cX9_aHold 26 = .ok (.invokevirtual 163, 3) := by decide +kernel
theorem dX9_aHold_29 : decode cX9_aHold 29 = .ok (.istore 4, 2) := by decide +kernel
theorem dX9_aHold_31 : decode cX9_aHold 31 = .ok (.aload_n 0, 1) := by decide +kernel
theorem dX9_aHold_32 : decode cX9_aHold 32 = .ok (.iconst 0, 1) := by decide +kernel
theorem dX9_aHold_33 : decode cX9_aHold 33 = .ok (.iload_n 2, 1) := by decide +kernel
theorem dX9_aHold_34 : decode cX9_aHold 34 = .ok (.invokevirtual 163, 3) := by decide +kernel
theorem dX9_aHold_37 : decode cX9_aHold 37 = .ok (.istore 5, 2) := by decide +kernel
theorem dX9_aHold_39 : decode cX9_aHold 39 = .ok (.aload_n 0, 1) := by decide +kernel
theorem dX9_aHold_40 : decode cX9_aHold 40 = .ok (.getfield 118, 3) := by decide +kernel
theorem dX9_aHold_43 : decode cX9_aHold 43 = .ok (.ifCond .ne 49, 3) := by decide +kernel
theorem dX9_aHold_46 : decode cX9_aHold 46 = .ok (.aload_n 0, 1) := by decide +kernel
theorem dX9_aHold_47 : decode cX9_aHold 47 = .ok (.getfield 32, 3) := by decide +kernel
theorem dX9_aHold_50 : decode cX9_aHold 50 = .ok (.iload_n 1, 1) := by decide +kernel
theorem dX9_aHold_51 : decode cX9_aHold 51 = .ok (.iload_n 2, 1) := by decide +kernel
theorem dX9_aHold_52 : decode cX9_aHold 52 = .ok (.iastore, 1) := by decide +kernel
theorem dX9_aHold_53 : decode cX9_aHold 53 = .ok (.aload_n 0, 1) := by decide +kernel
theorem dX9_aHold_54 : decode cX9_aHold 54 = .ok (.getfield 32, 3) := by decide +kernel
theorem dX9_aHold_57 : decode cX9_aHold 57 = .ok (.iload_n 1, 1) := by decide +kernel
theorem dX9_aHold_58 : decode cX9_aHold 58 = .ok (.iconst 1, 1) := by decide +kernel
theorem dX9_aHold_59 : decode cX9_aHold 59 = .ok (.iadd, 1) := by decide +kernel
theorem dX9_aHold_60 : decode cX9_aHold 60 = .ok (.iload_n 3, 1) := by decide +kernel
theorem dX9_aHold_61 : decode cX9_aHold 61 = .ok (.iastore, 1) := by decide +kernel
theorem dX9_aHold_62 : decode cX9_aHold 62 = .ok (.aload_n 0, 1) := by decide +kernel
theorem dX9_aHold_63 : decode cX9_aHold 63 = .ok (.getfield 32, 3) := by decide +kernel
theorem dX9_aHold_66 : decode cX9_aHold 66 = .ok (.iload_n 1, 1) := by decide +kernel
theorem dX9_aHold_67 : decode cX9_aHold 67 = .ok (.iconst 2, 1) := by decide +kernel
theorem dX9_aHold_68 : decode cX9_aHold 68 = .ok (.iadd, 1) := by decide +kernel
theorem dX9_aHold_69 : decode cX9_aHold 69 = .ok (.iload 4, 2) := by decide +kernel
theorem dX9_aHold_71 : decode cX9_aHold 71 = .ok (.iastore, 1) := by decide +kernel
theorem dX9_aHold_72 : decode cX9_aHold 72 = .ok (.aload_n 0, 1) := by decide +kernel
theorem dX9_aHold_73 : decode cX9_aHold 73 = .ok (.getfield 32, 3) := by decide +kernel
theorem dX9_aHold_76 : decode cX9_aHold 76 = .ok (.iload_n 1, 1) := by decide +kernel
theorem dX9_aHold_77 : decode cX9_aHold 77 = .ok (.iconst 3, 1) := by decide +kernel
theorem dX9_aHold_78 : decode cX9_aHold 78 = .ok (.iadd, 1) := by decide +kernel
theorem dX9_aHold_79 : decode cX9_aHold 79 = .ok (.iload 5, 2) := by decide +kernel
theorem dX9_aHold_81 : decode cX9_aHold 81 = .ok (.iastore, 1) := by decide +kernel
theorem dX9_aHold_82 : decode cX9_aHold 82 = .ok (.aload_n 0, 1) := by decide +kernel
theorem dX9_aHold_83 : decode cX9_aHold 83 = .ok (.dup, 1) := by decide +kernel
theorem dX9_aHold_84 : decode cX9_aHold 84 = .ok (.getfield 80, 3) := by decide +kernel
theorem dX9_aHold_87 : decode cX9_aHold 87 = .ok (.iconst 1, 1) := by decide +kernel
theorem dX9_aHold_88 : decode cX9_aHold 88 = .ok (.iadd, 1) := by decide +kernel
theorem dX9_aHold_89 : decode cX9_aHold 89 = .ok (.putfield 80, 3) := by decide +kernel
theorem dX9_aHold_92 : decode cX9_aHold 92 = .ok (.return_, 1) := by decide +kernel
theorem dX9_aHole_0 : decode cX9_aHole 0 = .ok (.aload_n 0, 1) := by decide +kernel
theorem dX9_aHole_1 : decode cX9_aHole 1 = .ok (.invokevirtual 167, 3) := by decide +kernel
theorem dX9_aHole_4 : decode cX9_aHole 4 = .ok (.istore_n 1, 1) := by decide +kernel
theorem dX9_aHole_5 : decode cX9_aHole 5 = .ok (.aload_n 0, 1) := by decide +kernel
theorem dX9_aHole_6 : decode cX9_aHole 6 = .ok (.iconst 1, 1) := by decide +kernel
theorem dX9_aHole_7 : decode cX9_aHole 7 = .ok (.bipush 20, 2) := by decide +kernel
theorem dX9_aHole_9 : decode cX9_aHole 9 = .ok (.invokevirtual 163, 3) := by decide +kernel
theorem dX9_aHole_12 : decode cX9_aHole 12 = .ok (.istore_n 2, 1) := by decide +kernel
theorem dX9_aHole_13 : decode cX9_aHole 13 = .ok (.aload_n 0, 1) := by decide +kernel
theorem dX9_aHole_14 : decode cX9_aHole 14 = .ok (.iconst 1, 1) := by decide +kernel
theorem dX9_aHole_15 : decode cX9_aHole 15 = .ok (.bipush 20, 2) := by decide +kernel
theorem dX9_aHole_17 : decode cX9_aHole 17 = .ok (.invokevirtual 163, 3) := by decide +kernel
theorem dX9_aHole_20 : decode cX9_aHole 20 = .ok (.istore_n 3, 1) := by decide +kernel
theorem dX9_aHole_21 : decode cX9_aHole 21 = .ok (.aload_n 0, 1) := by decide +kernel
theorem dX9_aHole_22 : decode cX9_aHole 22 = .ok (.getfield 118, 3) := by decide +kernel
theorem dX9_aHole_25 : decode cX9_aHole 25 = .ok (.ifCond .ne 53, 3) := by decide +kernel
theorem dX9_aHole_28 : decode cX9_aHole 28 = .ok (.aload_n 0, 1) := by decide +kernel
theorem dX9_aHole_29 : decode cX9_aHole 29 = .ok (.getfield 38, 3) := by decide +kernel
theorem dX9_aHole_32 : decode cX9_aHole 32 = .ok (.iconst 3, 1) := by decide +kernel
theorem dX9_aHole_33 : decode cX9_aHole 33 = .ok (.aload_n 0, 1) := by decide +kernel
theorem dX9_aHole_34 : decode cX9_aHole 34 = .ok (.getfield 87, 3) := by decide +kernel
theorem dX9_aHole_37 : decode cX9_aHole 37 = .ok (.imul, 1) := by decide +kernel
theorem dX9_aHole_38 : decode cX9_aHole 38 = .ok (.iload_n 1, 1) := by decide +kernel
theorem dX9_aHole_39 : decode cX9_aHole 39 = .ok (.iastore, 1) := by decide +kernel
theorem dX9_aHole_40 : decode cX9_aHole 40 = .ok (.aload_n 0, 1) := by decide +kernel
theorem dX9_aHole_41 : decode cX9_aHole 41 = .ok (.getfield 38, 3) := by decide +kernel
theorem dX9_aHole_44 : decode cX9_aHole 44 = .ok (.iconst 3, 1) := by decide +kernel
theorem dX9_aHole_45 : decode cX9_aHole 45 = .ok (.aload_n 0, 1) := by decide +kernel
theorem dX9_aHole_46 : decode cX9_aHole 46 = .ok (.getfield 87, 3) := by decide +kernel
theorem dX9_aHole_49 : decode cX9_aHole 49 = .ok (.imul, 1) := by decide +kernel
theorem dX9_aHole_50 : decode cX9_aHole 50 = .ok (.iconst 1, 1) := by decide +kernel
theorem dX9_aHole_51 : decode cX9_aHole 51 = .ok (.iadd, 1) := by decide +kernel
theorem dX9_aHole_52 : decode cX9_aHole 52 = .ok (.iload_n 2, 1) := by decide +kernel
theorem dX9_aHole_53 : decode cX9_aHole 53 = .ok (.iastore, 1) := by decide +kernel
theorem dX9_aHole_54 : decode cX9_aHole 54 = .ok (.aload_n 0, 1) := by decide +kernel
theorem dX9_aHole_55 : decode cX9_aHole 55 = .ok (.getfield 38, 3) := by decide +kernel
theorem dX9_aHole_58 : decode cX9_aHole 58 = .ok (.iconst 3, 1) := by decide +kernel
theorem dX9_aHole_59 : decode cX9_aHole 59 = .ok (.aload_n 0, 1) := by decide +kernel
theorem dX9_aHole_60 : decode cX9_aHole 60 = .ok (.getfield 87, 3) := by decide +kernel
theorem dX9_aHole_63 : decode cX9_aHole 63 = .ok (.imul, 1) := by decide +kernel
theorem dX9_aHole_64 : decode cX9_aHole 64 = .ok (.iconst 2, 1) := by decide +kernel
theorem dX9_aHole_65 : decode cX9_aHole 65 = .ok (.iadd, 1) := by decide +kernel
theorem dX9_aHole_66 : decode cX9_aHole 66 = .ok (.iload_n 3, 1) := by decide +kernel
theorem dX9_aHole_67 : decode cX9_aHole 67 = .ok (.iastore, 1) := by decide +kernel
theorem dX9_aHole_68 : decode cX9_aHole 68 = .ok (.aload_n 0, 1) := by decide +kernel
theorem dX9_aHole_69 : decode cX9_aHole 69 = .ok (.dup, 1) := by decide +kernel
theorem dX9_aHole_70 : decode cX9_aHole 70 = .ok (.getfield 87, 3) := by decide +kernel
theorem dX9_aHole_73 : decode cX9_aHole 73 = .ok (.iconst 1, 1) := by decide +kernel
theorem dX9_aHole_74 : decode cX9_aHole 74 = .ok (.iadd, 1) := by decide +kernel
theorem dX9_aHole_75 : decode cX9_aHole 75 = .ok (.putfield 87, 3) := by decide +kernel
theorem dX9_aHole_78 : decode cX9_aHole 78 = .ok (.return_, 1) := by decide +kernel
def b_X9_next_8  (t1 : Mm) : Option ((Mm) ⊕ (Mm)) :=
  (f_X9_look t1 (t1 113 23)).bind fun x3 => if x3 = (32 : Int32) then (letv (up2 t1 113 23 ((t1 113 23) + (1 : Int32))) fun m5 => some (Sum.inl m5)) else (some (Sum.inr t1))
def b_X9_next_140  (t20 : Mm) : Option ((Mm) ⊕ (Mm)) :=
  (f_X9_look t20 (t20 113 23)).bind fun x22 => (f_X9_in x22.toInt64 48 57).bind fun x24 => if x24 = 0 then (some (Sum.inr t20)) else ((if (3 : Int32) ≤ ((t20 113 23) - (t20 113 24)) then (some (t20 113 26)) else ((f_X9_look t20 (t20 113 23)).bind fun x27 => some ((((10 : Int32) * (t20 113 26)) + x27) - (48 : Int32))) : Option (Int32)).bind fun y26 => letv (up2 t20 113 26 y26) fun m29 => letv (up2 m29 113 23 ((m29 113 23) + (1 : Int32))) fun m30 => some (Sum.inl m30))
def b_X9_next_82  (t35 : Mm) : Option ((Mm) ⊕ (Mm)) :=
  (f_X9_look t35 (t35 113 23)).bind fun x37 => (f_X9_in x37.toInt64 97 122).bind fun x39 => if x39 = 0 then (some (Sum.inr t35)) else (letv (up2 t35 113 23 ((t35 113 23) + (1 : Int32))) fun m41 => some (Sum.inl m41))
def f_X9_next (F : Nat) (m : Mm) : Option (Mm) :=
  if (m 113 27) ≤ 0 then ((iter F b_X9_next_8 (m : Mm)).bind (fun e2 : Mm => letv (up2 e2 113 24 (e2 113 23)) fun m6 => (f_X9_look m6 (m6 113 23)).bind fun x7 => if 0 ≤ x7 then ((f_X9_in x7.toInt64 97 122).bind fun x9 => if x9 = 0 then ((f_X9_in x7.toInt64 48 57).bind fun x11 => if x11 = 0 then (letv (up2 m6 113 25 3) fun m13 => (if x7 = (59 : Int32) then (some 1) else (some 0) : Option (Int32)).bind fun y14 => (f_X9_needs m13 y14 1).bind fun m16 => letv (up2 m16 113 23 ((m16 113 23) + (1 : Int32))) fun m17 => some m17) else (letv (up2 m6 113 25 2) fun m18 => letv (up2 m18 113 26 0) fun m19 => (iter F b_X9_next_140 (m19 : Mm)).bind (fun e21 : Mm => (if (3 : Int32) < ((e21 113 23) - (e21 113 24)) then (some 0) else (some 1) : Option (Int32)).bind fun y31 => (f_X9_needs e21 y31 1).bind fun m33 => some m33))) else (letv (up2 m6 113 25 1) fun m34 => (iter F b_X9_next_82 (m34 : Mm)).bind (fun e36 : Mm => some e36))) else (letv (up2 m6 113 25 0) fun m42 => some m42))) else (some m)
set_option maxHeartbeats 4000000 in
set_option maxRecDepth 100000 in
theorem ct_X9_next (F : Nat) {n : Nat} (hn : 135 ≤ n) (P D : Nat) (T : Option Nat) (m : Mm)  : Ct yX9_next cX9_next 2 none 1 25 [.ref 113] n n m (RF P D T) (rV (RF P D T) (f_X9_next F m)) := by
  refine Ct.ofV (own := RX9) (nm := "next") [(0, .ref 113)] (by decide) (Nat.le_of_ble_eq_true rfl) rfl rfl rfl ?_
  unfold f_X9_next
  refine J_aload_n 0 0 113 dX9_next_0 rfl rfl ?_
  refine J_getI 113 9 27 dX9_next_1 fl_9_118 rfl rfl (Nat.lt_of_lt_of_le (Nat.le_of_ble_eq_true rfl) hn) ?_
  refine J_if_le 8 dX9_next_4 (by decide) ?_ ?_
  · refine J_lv [0] rfl ?_
    refine J_loop (pc := 8) (fun t1 : Mm => [(0, .ref 113)]) (fun t1 => t1) (fun _ => 34) (fun e2 => [(0, .ref 113)]) (fun _ => []) (fun e2 => e2) ?_ (fun t1 k1 hBt1 hXt1 => ?_) F m
    · refine fun e2 => ?_
      refine J_aload_n 0 0 113 dX9_next_34 rfl rfl ?_
      refine J_aload_n 0 0 113 dX9_next_35 rfl rfl ?_
      refine J_getI 113 9 23 dX9_next_36 fl_9_127 rfl rfl (Nat.lt_of_lt_of_le (Nat.le_of_ble_eq_true rfl) hn) ?_
      refine J_putI 113 9 24 dX9_next_39 fl_9_121 rfl rfl (Nat.lt_of_lt_of_le (Nat.le_of_ble_eq_true rfl) hn) rfl rfl rfl (fun m6 => ?_)
      refine J_aload_n 0 0 113 dX9_next_42 rfl rfl ?_
      refine J_aload_n 0 0 113 dX9_next_43 rfl rfl ?_
      refine J_getI 113 9 23 dX9_next_44 fl_9_127 rfl rfl (Nat.lt_of_lt_of_le (Nat.le_of_ble_eq_true rfl) hn) ?_
      refine J_callVP 113 9 1 [.int (m6 113 23)] dX9_next_47 mv_X9_look mv_X9_lookv lk_9_130 (ct_X9_look F hn P D T m6 (m6 113 23)) rfl rfl (by decide) rfl (Nat.lt_of_lt_of_le (Nat.le_of_ble_eq_true rfl) hn) ⟨by decide, by decide⟩ (Nat.le_of_ble_eq_true rfl) (fun x7 => ?_)
      refine J_istore_n 1 [(1, .int x7), (0, .ref 113)] dX9_next_50 rfl (by decide) rfl ?_
      refine J_iload_n 1 0 x7 dX9_next_51 rfl rfl ?_
      refine J_if_ge 63 dX9_next_52 (by decide) ?_ ?_
      · refine J_iload_n 1 0 x7 dX9_next_63 rfl rfl ?_
        refine J_i2l dX9_next_64 ?_
        refine J_ldc2 97 dX9_next_65 kl_9_141 ?_
        refine J_ldc2 122 dX9_next_68 kl_9_143 ?_
        refine J_callSP 3 [.long x7.toInt64, .long 97, .long 122] dX9_next_71 mv_X9_in mv_X9_ins lk_9_114 (ct_X9_in F hn P D T m6 x7.toInt64 97 122) rfl ⟨by decide, by decide⟩ (Nat.le_of_ble_eq_true rfl) (fun x9 => ?_)
        refine J_if_eq 116 dX9_next_74 (by decide) ?_ ?_
        · refine J_iload_n 1 0 x7 dX9_next_116 rfl rfl ?_
          refine J_i2l dX9_next_117 ?_
          refine J_ldc2 48 dX9_next_118 kl_9_145 ?_
          refine J_ldc2 57 dX9_next_121 kl_9_147 ?_
          refine J_callSP 3 [.long x7.toInt64, .long 48, .long 57] dX9_next_124 mv_X9_in mv_X9_ins lk_9_114 (ct_X9_in F hn P D T m6 x7.toInt64 48 57) rfl ⟨by decide, by decide⟩ (Nat.le_of_ble_eq_true rfl) (fun x11 => ?_)
          refine J_if_eq 243 dX9_next_127 (by decide) ?_ ?_
          · refine J_aload_n 0 1 113 dX9_next_243 rfl rfl ?_
            refine J_iconst 3 dX9_next_244 (by decide) ?_
            refine J_putI 113 9 25 dX9_next_245 fl_9_138 rfl rfl (Nat.lt_of_lt_of_le (Nat.le_of_ble_eq_true rfl) hn) rfl rfl rfl (fun m13 => ?_)
            refine J_aload_n 0 1 113 dX9_next_248 rfl rfl ?_
            refine J_iload_n 1 0 x7 dX9_next_249 rfl rfl ?_
            refine J_bipush 59 dX9_next_250 (by decide) ?_
            refine J_seqJ 260 (fun y14 : Int32 => [(0, .ref 113)]) (fun y14 => [.int y14, .ref 113]) (fun y14 => m13) (fun y14 => ?_) (fun k1 hEy14 => ?_)
            · refine J_iconst 1 dX9_next_260 (by decide) ?_
              refine J_callVV 113 9 2 [.int y14, .int 1] dX9_next_261 mv_X9_needs mv_X9_needsv lk_9_152 (ct_X9_needs F hn P D T m13 y14 1) rfl rfl (by decide) rfl (Nat.lt_of_lt_of_le (Nat.le_of_ble_eq_true rfl) hn) ⟨by decide, by decide⟩ (Nat.le_of_ble_eq_true rfl) (fun m16 => ?_)
              refine J_aload_n 0 0 113 dX9_next_264 rfl rfl ?_
              refine J_dup dX9_next_265 rfl ?_
              refine J_getI 113 9 23 dX9_next_266 fl_9_127 rfl rfl (Nat.lt_of_lt_of_le (Nat.le_of_ble_eq_true rfl) hn) ?_
              refine J_iconst 1 dX9_next_269 (by decide) ?_
              refine J_iadd dX9_next_270 ?_
              refine J_putI 113 9 23 dX9_next_271 fl_9_127 rfl rfl (Nat.lt_of_lt_of_le (Nat.le_of_ble_eq_true rfl) hn) rfl rfl rfl (fun m17 => ?_)
              exact J_vretV dX9_next_274 rfl rfl
            · refine J_icmp_ne 259 dX9_next_252 (by decide) ?_ ?_
              · refine J_iconst 0 dX9_next_259 (by decide) ?_
                exact J_lv [1] rfl (hEy14 0)
              · refine J_iconst 1 dX9_next_255 (by decide) ?_
                refine J_goto 260 dX9_next_256 (by decide) ?_
                exact J_lv [1] rfl (hEy14 1)
          · refine J_aload_n 0 1 113 dX9_next_130 rfl rfl ?_
            refine J_iconst 2 dX9_next_131 (by decide) ?_
            refine J_putI 113 9 25 dX9_next_132 fl_9_138 rfl rfl (Nat.lt_of_lt_of_le (Nat.le_of_ble_eq_true rfl) hn) rfl rfl rfl (fun m18 => ?_)
            refine J_aload_n 0 1 113 dX9_next_135 rfl rfl ?_
            refine J_iconst 0 dX9_next_136 (by decide) ?_
            refine J_putI 113 9 26 dX9_next_137 fl_9_149 rfl rfl (Nat.lt_of_lt_of_le (Nat.le_of_ble_eq_true rfl) hn) rfl rfl rfl (fun m19 => ?_)
            refine J_lv [1] rfl ?_
            refine J_loop (pc := 140) (fun t20 : Mm => [(0, .ref 113)]) (fun t20 => t20) (fun _ => 217) (fun e21 => [(0, .ref 113)]) (fun _ => []) (fun e21 => e21) ?_ (fun t20 k1 hBt20 hXt20 => ?_) F m19
            · refine fun e21 => ?_
              refine J_aload_n 0 0 113 dX9_next_217 rfl rfl ?_
              refine J_aload_n 0 0 113 dX9_next_218 rfl rfl ?_
              refine J_getI 113 9 23 dX9_next_219 fl_9_127 rfl rfl (Nat.lt_of_lt_of_le (Nat.le_of_ble_eq_true rfl) hn) ?_
              refine J_aload_n 0 0 113 dX9_next_222 rfl rfl ?_
              refine J_getI 113 9 24 dX9_next_223 fl_9_121 rfl rfl (Nat.lt_of_lt_of_le (Nat.le_of_ble_eq_true rfl) hn) ?_
              refine J_isub dX9_next_226 ?_
              refine J_iconst 3 dX9_next_227 (by decide) ?_
              refine J_seqJ 236 (fun y31 : Int32 => []) (fun y31 => [.int y31, .ref 113]) (fun y31 => e21) (fun y31 => ?_) (fun k1 hEy31 => ?_)
              · refine J_iconst 1 dX9_next_236 (by decide) ?_
                refine J_callVV 113 9 2 [.int y31, .int 1] dX9_next_237 mv_X9_needs mv_X9_needsv lk_9_152 (ct_X9_needs F hn P D T e21 y31 1) rfl rfl (by decide) rfl (Nat.lt_of_lt_of_le (Nat.le_of_ble_eq_true rfl) hn) ⟨by decide, by decide⟩ (Nat.le_of_ble_eq_true rfl) (fun m33 => ?_)
                refine J_goto 274 dX9_next_240 (by decide) ?_
                exact J_vretV dX9_next_274 rfl rfl
              · refine J_icmp_gt 235 dX9_next_228 (by decide) ?_ ?_
                · refine J_iconst 0 dX9_next_235 (by decide) ?_
                  exact J_lv [] rfl (hEy31 0)
                · refine J_iconst 1 dX9_next_231 (by decide) ?_
                  refine J_goto 236 dX9_next_232 (by decide) ?_
                  exact J_lv [] rfl (hEy31 1)
            · unfold b_X9_next_140
              refine J_aload_n 0 0 113 dX9_next_140 rfl rfl ?_
              refine J_aload_n 0 0 113 dX9_next_141 rfl rfl ?_
              refine J_getI 113 9 23 dX9_next_142 fl_9_127 rfl rfl (Nat.lt_of_lt_of_le (Nat.le_of_ble_eq_true rfl) hn) ?_
              refine J_callVP 113 9 1 [.int (t20 113 23)] dX9_next_145 mv_X9_look mv_X9_lookv lk_9_130 (ct_X9_look F hn P D T t20 (t20 113 23)) rfl rfl (by decide) rfl (Nat.lt_of_lt_of_le (Nat.le_of_ble_eq_true rfl) hn) ⟨by decide, by decide⟩ (Nat.le_of_ble_eq_true rfl) (fun x22 => ?_)
              refine J_i2l dX9_next_148 ?_
              refine J_ldc2 48 dX9_next_149 kl_9_145 ?_
              refine J_ldc2 57 dX9_next_152 kl_9_147 ?_
              refine J_callSP 3 [.long x22.toInt64, .long 48, .long 57] dX9_next_155 mv_X9_in mv_X9_ins lk_9_114 (ct_X9_in F hn P D T t20 x22.toInt64 48 57) rfl ⟨by decide, by decide⟩ (Nat.le_of_ble_eq_true rfl) (fun x24 => ?_)
              refine J_if_eq 217 dX9_next_158 (by decide) ?_ ?_
              · exact J_lv [0] rfl (hXt20 t20)
              · refine J_aload_n 0 0 113 dX9_next_161 rfl rfl ?_
                refine J_aload_n 0 0 113 dX9_next_162 rfl rfl ?_
                refine J_getI 113 9 23 dX9_next_163 fl_9_127 rfl rfl (Nat.lt_of_lt_of_le (Nat.le_of_ble_eq_true rfl) hn) ?_
                refine J_aload_n 0 0 113 dX9_next_166 rfl rfl ?_
                refine J_getI 113 9 24 dX9_next_167 fl_9_121 rfl rfl (Nat.lt_of_lt_of_le (Nat.le_of_ble_eq_true rfl) hn) ?_
                refine J_isub dX9_next_170 ?_
                refine J_iconst 3 dX9_next_171 (by decide) ?_
                refine J_seqJ 201 (fun y26 : Int32 => [(0, .ref 113)]) (fun y26 => [.int y26, .ref 113]) (fun y26 => t20) (fun y26 => ?_) (fun k1 hEy26 => ?_)
                · refine J_putI 113 9 26 dX9_next_201 fl_9_149 rfl rfl (Nat.lt_of_lt_of_le (Nat.le_of_ble_eq_true rfl) hn) rfl rfl rfl (fun m29 => ?_)
                  refine J_aload_n 0 0 113 dX9_next_204 rfl rfl ?_
                  refine J_dup dX9_next_205 rfl ?_
                  refine J_getI 113 9 23 dX9_next_206 fl_9_127 rfl rfl (Nat.lt_of_lt_of_le (Nat.le_of_ble_eq_true rfl) hn) ?_
                  refine J_iconst 1 dX9_next_209 (by decide) ?_
                  refine J_iadd dX9_next_210 ?_
                  refine J_putI 113 9 23 dX9_next_211 fl_9_127 rfl rfl (Nat.lt_of_lt_of_le (Nat.le_of_ble_eq_true rfl) hn) rfl rfl rfl (fun m30 => ?_)
                  refine J_goto 140 dX9_next_214 (by decide) ?_
                  exact J_lv [0] rfl (hBt20 m30)
                · refine J_icmp_ge 197 dX9_next_172 (by decide) ?_ ?_
                  · refine J_aload_n 0 0 113 dX9_next_197 rfl rfl ?_
                    refine J_getI 113 9 26 dX9_next_198 fl_9_149 rfl rfl (Nat.lt_of_lt_of_le (Nat.le_of_ble_eq_true rfl) hn) ?_
                    exact J_lv [0] rfl (hEy26 (t20 113 26))
                  · refine J_bipush 10 dX9_next_175 (by decide) ?_
                    refine J_aload_n 0 0 113 dX9_next_177 rfl rfl ?_
                    refine J_getI 113 9 26 dX9_next_178 fl_9_149 rfl rfl (Nat.lt_of_lt_of_le (Nat.le_of_ble_eq_true rfl) hn) ?_
                    refine J_imul dX9_next_181 ?_
                    refine J_aload_n 0 0 113 dX9_next_182 rfl rfl ?_
                    refine J_aload_n 0 0 113 dX9_next_183 rfl rfl ?_
                    refine J_getI 113 9 23 dX9_next_184 fl_9_127 rfl rfl (Nat.lt_of_lt_of_le (Nat.le_of_ble_eq_true rfl) hn) ?_
                    refine J_callVP 113 9 1 [.int (t20 113 23)] dX9_next_187 mv_X9_look mv_X9_lookv lk_9_130 (ct_X9_look F hn P D T t20 (t20 113 23)) rfl rfl (by decide) rfl (Nat.lt_of_lt_of_le (Nat.le_of_ble_eq_true rfl) hn) ⟨by decide, by decide⟩ (Nat.le_of_ble_eq_true rfl) (fun x27 => ?_)
                    refine J_iadd dX9_next_190 ?_
                    refine J_bipush 48 dX9_next_191 (by decide) ?_
                    refine J_isub dX9_next_193 ?_
                    refine J_goto 201 dX9_next_194 (by decide) ?_
                    exact J_lv [0] rfl (hEy26 ((((10 : Int32) * (t20 113 26)) + x27) - (48 : Int32)))
        · refine J_aload_n 0 1 113 dX9_next_77 rfl rfl ?_
          refine J_iconst 1 dX9_next_78 (by decide) ?_
          refine J_putI 113 9 25 dX9_next_79 fl_9_138 rfl rfl (Nat.lt_of_lt_of_le (Nat.le_of_ble_eq_true rfl) hn) rfl rfl rfl (fun m34 => ?_)
          refine J_lv [1] rfl ?_
          refine J_loop (pc := 82) (fun t35 : Mm => [(0, .ref 113)]) (fun t35 => t35) (fun _ => 274) (fun e36 => []) (fun _ => []) (fun e36 => e36) ?_ (fun t35 k1 hBt35 hXt35 => ?_) F m34
          · refine fun e36 => ?_
            exact J_vretV dX9_next_274 rfl rfl
          · unfold b_X9_next_82
            refine J_aload_n 0 0 113 dX9_next_82 rfl rfl ?_
            refine J_aload_n 0 0 113 dX9_next_83 rfl rfl ?_
            refine J_getI 113 9 23 dX9_next_84 fl_9_127 rfl rfl (Nat.lt_of_lt_of_le (Nat.le_of_ble_eq_true rfl) hn) ?_
            refine J_callVP 113 9 1 [.int (t35 113 23)] dX9_next_87 mv_X9_look mv_X9_lookv lk_9_130 (ct_X9_look F hn P D T t35 (t35 113 23)) rfl rfl (by decide) rfl (Nat.lt_of_lt_of_le (Nat.le_of_ble_eq_true rfl) hn) ⟨by decide, by decide⟩ (Nat.le_of_ble_eq_true rfl) (fun x37 => ?_)
            refine J_i2l dX9_next_90 ?_
            refine J_ldc2 97 dX9_next_91 kl_9_141 ?_
            refine J_ldc2 122 dX9_next_94 kl_9_143 ?_
            refine J_callSP 3 [.long x37.toInt64, .long 97, .long 122] dX9_next_97 mv_X9_in mv_X9_ins lk_9_114 (ct_X9_in F hn P D T t35 x37.toInt64 97 122) rfl ⟨by decide, by decide⟩ (Nat.le_of_ble_eq_true rfl) (fun x39 => ?_)
            refine J_if_eq 274 dX9_next_100 (by decide) ?_ ?_
            · exact J_lv [] rfl (hXt35 t35)
            · refine J_aload_n 0 0 113 dX9_next_103 rfl rfl ?_
              refine J_dup dX9_next_104 rfl ?_
              refine J_getI 113 9 23 dX9_next_105 fl_9_127 rfl rfl (Nat.lt_of_lt_of_le (Nat.le_of_ble_eq_true rfl) hn) ?_
              refine J_iconst 1 dX9_next_108 (by decide) ?_
              refine J_iadd dX9_next_109 ?_
              refine J_putI 113 9 23 dX9_next_110 fl_9_127 rfl rfl (Nat.lt_of_lt_of_le (Nat.le_of_ble_eq_true rfl) hn) rfl rfl rfl (fun m41 => ?_)
              refine J_goto 82 dX9_next_113 (by decide) ?_
              exact J_lv [0] rfl (hBt35 m41)
      · refine J_aload_n 0 1 113 dX9_next_55 rfl rfl ?_
        refine J_iconst 0 dX9_next_56 (by decide) ?_
        refine J_putI 113 9 25 dX9_next_57 fl_9_138 rfl rfl (Nat.lt_of_lt_of_le (Nat.le_of_ble_eq_true rfl) hn) rfl rfl rfl (fun m42 => ?_)
        refine J_goto 274 dX9_next_60 (by decide) ?_
        exact J_vretV dX9_next_274 rfl rfl
    · unfold b_X9_next_8
      refine J_aload_n 0 0 113 dX9_next_8 rfl rfl ?_
      refine J_aload_n 0 0 113 dX9_next_9 rfl rfl ?_
      refine J_getI 113 9 23 dX9_next_10 fl_9_127 rfl rfl (Nat.lt_of_lt_of_le (Nat.le_of_ble_eq_true rfl) hn) ?_
      refine J_callVP 113 9 1 [.int (t1 113 23)] dX9_next_13 mv_X9_look mv_X9_lookv lk_9_130 (ct_X9_look F hn P D T t1 (t1 113 23)) rfl rfl (by decide) rfl (Nat.lt_of_lt_of_le (Nat.le_of_ble_eq_true rfl) hn) ⟨by decide, by decide⟩ (Nat.le_of_ble_eq_true rfl) (fun x3 => ?_)
      refine J_bipush 32 dX9_next_16 (by decide) ?_
      refine J_icmp_ne 34 dX9_next_18 (by decide) ?_ ?_
      · exact J_lv [0] rfl (hXt1 t1)
      · refine J_aload_n 0 0 113 dX9_next_21 rfl rfl ?_
        refine J_dup dX9_next_22 rfl ?_
        refine J_getI 113 9 23 dX9_next_23 fl_9_127 rfl rfl (Nat.lt_of_lt_of_le (Nat.le_of_ble_eq_true rfl) hn) ?_
        refine J_iconst 1 dX9_next_26 (by decide) ?_
        refine J_iadd dX9_next_27 ?_
        refine J_putI 113 9 23 dX9_next_28 fl_9_127 rfl rfl (Nat.lt_of_lt_of_le (Nat.le_of_ble_eq_true rfl) hn) rfl rfl rfl (fun m5 => ?_)
        refine J_goto 8 dX9_next_31 (by decide) ?_
        exact J_lv [0] rfl (hBt1 m5)
  · exact J_vretV dX9_next_7 rfl rfl
def f_X9_readNumber (F : Nat) (m : Mm) (a1 : Int32) (a2 : Int32) : Option (Int32 × Mm) :=
  (f_X9_isNumber m a1 a2).bind fun m2 => letv (m2 113 26) fun x3 => (f_X9_next F m2).bind fun m5 => some (x3, m5)
set_option maxHeartbeats 4000000 in
set_option maxRecDepth 100000 in
theorem ct_X9_readNumber (F : Nat) {n : Nat} (hn : 135 ≤ n) (P D : Nat) (T : Option Nat) (m : Mm) (a1 : Int32) (a2 : Int32) : Ct yX9_readNumber cX9_readNumber 4 (some .int) 2 47 [.ref 113, .int a1, .int a2] n n m (RF P D T) (rI (RF P D T) (f_X9_readNumber F m a1 a2)) := by
  refine Ct.ofI (own := RX9) (nm := "readNumber") [(0, .ref 113), (1, .int a1), (2, .int a2)] (by decide) (Nat.le_of_ble_eq_true rfl) rfl rfl rfl ?_
  unfold f_X9_readNumber
  refine J_aload_n 0 0 113 dX9_readNumber_0 rfl rfl ?_
  refine J_iload_n 1 1 a1 dX9_readNumber_1 rfl rfl ?_
  refine J_iload_n 2 2 a2 dX9_readNumber_2 rfl rfl ?_
  refine J_callVV 113 9 2 [.int a1, .int a2] dX9_readNumber_3 mv_X9_isNumber mv_X9_isNumberv lk_9_156 (ct_X9_isNumber F hn P D T m a1 a2) rfl rfl (by decide) rfl (Nat.lt_of_lt_of_le (Nat.le_of_ble_eq_true rfl) hn) ⟨by decide, by decide⟩ (Nat.le_of_ble_eq_true rfl) (fun m2 => ?_)
  refine J_aload_n 0 0 113 dX9_readNumber_6 rfl rfl ?_
  refine J_getI 113 9 26 dX9_readNumber_7 fl_9_149 rfl rfl (Nat.lt_of_lt_of_le (Nat.le_of_ble_eq_true rfl) hn) ?_
  refine J_let (fun x3 => ?_)
  refine J_istore_n 3 [(3, .int x3), (0, .ref 113), (1, .int a1), (2, .int a2)] dX9_readNumber_10 rfl (by decide) rfl ?_
  refine J_aload_n 0 1 113 dX9_readNumber_11 rfl rfl ?_
  refine J_callVV 113 9 0 [] dX9_readNumber_12 mv_X9_next mv_X9_nextv lk_9_160 (ct_X9_next F hn P D T m2) rfl rfl (by decide) rfl (Nat.lt_of_lt_of_le (Nat.le_of_ble_eq_true rfl) hn) ⟨by decide, by decide⟩ (Nat.le_of_ble_eq_true rfl) (fun m5 => ?_)
  refine J_iload_n 3 0 x3 dX9_readNumber_15 rfl rfl ?_
  exact J_iretI dX9_readNumber_16 rfl rfl
def f_X9_readHold (F : Nat) (m : Mm) : Option (Int32 × Mm) :=
  bind2 (f_X9_readNumber F m 0 ((m 113 11) - (1 : Int32))) fun x1 m2 => some (x1, m2)
set_option maxHeartbeats 4000000 in
set_option maxRecDepth 100000 in
theorem ct_X9_readHold (F : Nat) {n : Nat} (hn : 135 ≤ n) (P D : Nat) (T : Option Nat) (m : Mm)  : Ct yX9_readHold cX9_readHold 1 (some .int) 3 70 [.ref 113] n n m (RF P D T) (rI (RF P D T) (f_X9_readHold F m)) := by
  refine Ct.ofI (own := RX9) (nm := "readHold") [(0, .ref 113)] (by decide) (Nat.le_of_ble_eq_true rfl) rfl rfl rfl ?_
  unfold f_X9_readHold
  refine J_aload_n 0 0 113 dX9_readHold_0 rfl rfl ?_
  refine J_iconst 0 dX9_readHold_1 (by decide) ?_
  refine J_aload_n 0 0 113 dX9_readHold_2 rfl rfl ?_
  refine J_getI 113 9 11 dX9_readHold_3 fl_9_80 rfl rfl (Nat.lt_of_lt_of_le (Nat.le_of_ble_eq_true rfl) hn) ?_
  refine J_iconst 1 dX9_readHold_6 (by decide) ?_
  refine J_isub dX9_readHold_7 ?_
  refine J_callVI 113 9 2 [.int 0, .int ((m 113 11) - (1 : Int32))] dX9_readHold_8 mv_X9_readNumber mv_X9_readNumberv lk_9_163 (ct_X9_readNumber F hn P D T m 0 ((m 113 11) - (1 : Int32))) rfl rfl (by decide) rfl (Nat.lt_of_lt_of_le (Nat.le_of_ble_eq_true rfl) hn) ⟨by decide, by decide⟩ (Nat.le_of_ble_eq_true rfl) (fun x1 m2 => ?_)
  exact J_iretI dX9_readHold_11 rfl rfl
def f_X9_aDoor (F : Nat) (m : Mm) : Option (Mm) :=
  letv ((6 : Int32) * (m 113 13)) fun x1 => bind2 (f_X9_readHold F m) fun x2 m3 => (f_X9_isNumber m3 0 ((m3 113 11) - (1 : Int32))).bind fun m5 => letv (m5 113 26) fun x6 => (if (m5 113 27) = 0 then ((if x2 = x6 then (some 0) else (some 1) : Option (Int32)).bind fun y8 => (f_X9_needs m5 y8 3).bind fun m10 => some m10) else (some m5) : Option (Mm)).bind fun y7 => (f_X9_next F y7).bind fun m12 => bind2 (f_X9_readNumber F m12 0 12) fun x13 m14 => bind2 (f_X9_readNumber F m14 1 9) fun x15 m16 => bind2 (f_X9_readNumber F m16 1 9) fun x17 m18 => (if (m18 113 27) = 0 then (if (m18 113 25) = (1 : Int32) then ((f_X9_nameNow m18).bind fun x20 => if x20 = (14 : Int32) then (some 1) else (some 0)) else (some 0)) else (some 0) : Option (Int32)).bind fun y19 => (if y19 = 0 then (some m18) else ((f_X9_next F m18).bind fun m24 => some m24) : Option (Mm)).bind fun y22 => if (y22 113 27) = 0 then ((ast y22 122 60 x1 x2).bind fun m25 => (ast m25 122 60 (x1 + (1 : Int32)) x6).bind fun m26 => (ast m26 122 60 (x1 + (2 : Int32)) x13).bind fun m27 => (ast m27 122 60 (x1 + (3 : Int32)) x15).bind fun m28 => (ast m28 122 60 (x1 + (4 : Int32)) x17).bind fun m29 => (if y19 = 0 then (some 1) else (some 0) : Option (Int32)).bind fun y30 => (f_X9_flag y30).bind fun x31 => (ast m29 122 60 (x1 + (5 : Int32)) x31).bind fun m33 => letv (up2 m33 113 13 ((m33 113 13) + (1 : Int32))) fun m34 => some m34) else (some y22)
set_option maxHeartbeats 4000000 in
set_option maxRecDepth 100000 in
theorem ct_X9_aDoor (F : Nat) {n : Nat} (hn : 135 ≤ n) (P D : Nat) (T : Option Nat) (m : Mm)  : Ct yX9_aDoor cX9_aDoor 8 none 4 90 [.ref 113] n n m (RF P D T) (rV (RF P D T) (f_X9_aDoor F m)) := by
  refine Ct.ofV (own := RX9) (nm := "aDoor") [(0, .ref 113)] (by decide) (Nat.le_of_ble_eq_true rfl) rfl rfl rfl ?_
  unfold f_X9_aDoor
  refine J_bipush 6 dX9_aDoor_0 (by decide) ?_
  refine J_aload_n 0 0 113 dX9_aDoor_2 rfl rfl ?_
  refine J_getI 113 9 13 dX9_aDoor_3 fl_9_84 rfl rfl (Nat.lt_of_lt_of_le (Nat.le_of_ble_eq_true rfl) hn) ?_
  refine J_imul dX9_aDoor_6 ?_
  refine J_let (fun x1 => ?_)
  refine J_istore_n 1 [(1, .int x1), (0, .ref 113)] dX9_aDoor_7 rfl (by decide) rfl ?_
  refine J_aload_n 0 1 113 dX9_aDoor_8 rfl rfl ?_
  refine J_callVI 113 9 0 [] dX9_aDoor_9 mv_X9_readHold mv_X9_readHoldv lk_9_167 (ct_X9_readHold F hn P D T m) rfl rfl (by decide) rfl (Nat.lt_of_lt_of_le (Nat.le_of_ble_eq_true rfl) hn) ⟨by decide, by decide⟩ (Nat.le_of_ble_eq_true rfl) (fun x2 m3 => ?_)
  refine J_istore_n 2 [(2, .int x2), (1, .int x1), (0, .ref 113)] dX9_aDoor_12 rfl (by decide) rfl ?_
  refine J_aload_n 0 2 113 dX9_aDoor_13 rfl rfl ?_
  refine J_iconst 0 dX9_aDoor_14 (by decide) ?_
  refine J_aload_n 0 2 113 dX9_aDoor_15 rfl rfl ?_
  refine J_getI 113 9 11 dX9_aDoor_16 fl_9_80 rfl rfl (Nat.lt_of_lt_of_le (Nat.le_of_ble_eq_true rfl) hn) ?_
  refine J_iconst 1 dX9_aDoor_19 (by decide) ?_
  refine J_isub dX9_aDoor_20 ?_
  refine J_callVV 113 9 2 [.int 0, .int ((m3 113 11) - (1 : Int32))] dX9_aDoor_21 mv_X9_isNumber mv_X9_isNumberv lk_9_156 (ct_X9_isNumber F hn P D T m3 0 ((m3 113 11) - (1 : Int32))) rfl rfl (by decide) rfl (Nat.lt_of_lt_of_le (Nat.le_of_ble_eq_true rfl) hn) ⟨by decide, by decide⟩ (Nat.le_of_ble_eq_true rfl) (fun m5 => ?_)
  refine J_aload_n 0 2 113 dX9_aDoor_24 rfl rfl ?_
  refine J_getI 113 9 26 dX9_aDoor_25 fl_9_149 rfl rfl (Nat.lt_of_lt_of_le (Nat.le_of_ble_eq_true rfl) hn) ?_
  refine J_let (fun x6 => ?_)
  refine J_istore_n 3 [(3, .int x6), (2, .int x2), (1, .int x1), (0, .ref 113)] dX9_aDoor_28 rfl (by decide) rfl ?_
  refine J_aload_n 0 3 113 dX9_aDoor_29 rfl rfl ?_
  refine J_getI 113 9 27 dX9_aDoor_30 fl_9_118 rfl rfl (Nat.lt_of_lt_of_le (Nat.le_of_ble_eq_true rfl) hn) ?_
  refine J_seqJ 51 (fun y7 : Mm => [(0, .ref 113), (1, .int x1), (2, .int x2), (3, .int x6)]) (fun y7 => []) (fun y7 => y7) (fun y7 => ?_) (fun k1 hEy7 => ?_)
  · refine J_aload_n 0 0 113 dX9_aDoor_51 rfl rfl ?_
    refine J_callVV 113 9 0 [] dX9_aDoor_52 mv_X9_next mv_X9_nextv lk_9_160 (ct_X9_next F hn P D T y7) rfl rfl (by decide) rfl (Nat.lt_of_lt_of_le (Nat.le_of_ble_eq_true rfl) hn) ⟨by decide, by decide⟩ (Nat.le_of_ble_eq_true rfl) (fun m12 => ?_)
    refine J_aload_n 0 0 113 dX9_aDoor_55 rfl rfl ?_
    refine J_iconst 0 dX9_aDoor_56 (by decide) ?_
    refine J_bipush 12 dX9_aDoor_57 (by decide) ?_
    refine J_callVI 113 9 2 [.int 0, .int 12] dX9_aDoor_59 mv_X9_readNumber mv_X9_readNumberv lk_9_163 (ct_X9_readNumber F hn P D T m12 0 12) rfl rfl (by decide) rfl (Nat.lt_of_lt_of_le (Nat.le_of_ble_eq_true rfl) hn) ⟨by decide, by decide⟩ (Nat.le_of_ble_eq_true rfl) (fun x13 m14 => ?_)
    refine J_istore 4 [(4, .int x13), (0, .ref 113), (1, .int x1), (2, .int x2), (3, .int x6)] dX9_aDoor_62 (by decide) rfl ?_
    refine J_aload_n 0 1 113 dX9_aDoor_64 rfl rfl ?_
    refine J_iconst 1 dX9_aDoor_65 (by decide) ?_
    refine J_bipush 9 dX9_aDoor_66 (by decide) ?_
    refine J_callVI 113 9 2 [.int 1, .int 9] dX9_aDoor_68 mv_X9_readNumber mv_X9_readNumberv lk_9_163 (ct_X9_readNumber F hn P D T m14 1 9) rfl rfl (by decide) rfl (Nat.lt_of_lt_of_le (Nat.le_of_ble_eq_true rfl) hn) ⟨by decide, by decide⟩ (Nat.le_of_ble_eq_true rfl) (fun x15 m16 => ?_)
    refine J_istore 5 [(5, .int x15), (4, .int x13), (0, .ref 113), (1, .int x1), (2, .int x2), (3, .int x6)] dX9_aDoor_71 (by decide) rfl ?_
    refine J_aload_n 0 2 113 dX9_aDoor_73 rfl rfl ?_
    refine J_iconst 1 dX9_aDoor_74 (by decide) ?_
    refine J_bipush 9 dX9_aDoor_75 (by decide) ?_
    refine J_callVI 113 9 2 [.int 1, .int 9] dX9_aDoor_77 mv_X9_readNumber mv_X9_readNumberv lk_9_163 (ct_X9_readNumber F hn P D T m16 1 9) rfl rfl (by decide) rfl (Nat.lt_of_lt_of_le (Nat.le_of_ble_eq_true rfl) hn) ⟨by decide, by decide⟩ (Nat.le_of_ble_eq_true rfl) (fun x17 m18 => ?_)
    refine J_istore 6 [(6, .int x17), (5, .int x15), (4, .int x13), (0, .ref 113), (1, .int x1), (2, .int x2), (3, .int x6)] dX9_aDoor_80 (by decide) rfl ?_
    refine J_aload_n 0 3 113 dX9_aDoor_82 rfl rfl ?_
    refine J_getI 113 9 27 dX9_aDoor_83 fl_9_118 rfl rfl (Nat.lt_of_lt_of_le (Nat.le_of_ble_eq_true rfl) hn) ?_
    refine J_seqJ 111 (fun y19 : Int32 => [(0, .ref 113), (1, .int x1), (2, .int x2), (3, .int x6), (4, .int x13), (5, .int x15), (6, .int x17)]) (fun y19 => [.int y19]) (fun y19 => m18) (fun y19 => ?_) (fun k1 hEy19 => ?_)
    · refine J_istore 7 [(7, .int y19), (0, .ref 113), (1, .int x1), (2, .int x2), (3, .int x6), (4, .int x13), (5, .int x15), (6, .int x17)] dX9_aDoor_111 (by decide) rfl ?_
      refine J_iload 7 0 y19 dX9_aDoor_113 rfl ?_
      refine J_seqJ 122 (fun y22 : Mm => [(0, .ref 113), (1, .int x1), (2, .int x2), (3, .int x6), (4, .int x13), (5, .int x15), (6, .int x17), (7, .int y19)]) (fun y22 => []) (fun y22 => y22) (fun y22 => ?_) (fun k1 hEy22 => ?_)
      · refine J_aload_n 0 0 113 dX9_aDoor_122 rfl rfl ?_
        refine J_getI 113 9 27 dX9_aDoor_123 fl_9_118 rfl rfl (Nat.lt_of_lt_of_le (Nat.le_of_ble_eq_true rfl) hn) ?_
        refine J_if_ne 206 dX9_aDoor_126 (by decide) ?_ ?_
        · exact J_vretV dX9_aDoor_206 rfl rfl
        · refine J_aload_n 0 0 113 dX9_aDoor_129 rfl rfl ?_
          refine J_getR 113 9 14 122 dX9_aDoor_130 fl_9_35 rfl rfl (Nat.lt_of_lt_of_le (Nat.le_of_ble_eq_true rfl) hn) rfl ?_
          refine J_iload_n 1 1 x1 dX9_aDoor_133 rfl rfl ?_
          refine J_iload_n 2 2 x2 dX9_aDoor_134 rfl rfl ?_
          refine J_iast 122 60 dX9_aDoor_135 rfl (Nat.lt_of_lt_of_le (Nat.le_of_ble_eq_true rfl) hn) (fun m25 => ?_)
          refine J_aload_n 0 0 113 dX9_aDoor_136 rfl rfl ?_
          refine J_getR 113 9 14 122 dX9_aDoor_137 fl_9_35 rfl rfl (Nat.lt_of_lt_of_le (Nat.le_of_ble_eq_true rfl) hn) rfl ?_
          refine J_iload_n 1 1 x1 dX9_aDoor_140 rfl rfl ?_
          refine J_iconst 1 dX9_aDoor_141 (by decide) ?_
          refine J_iadd dX9_aDoor_142 ?_
          refine J_iload_n 3 3 x6 dX9_aDoor_143 rfl rfl ?_
          refine J_iast 122 60 dX9_aDoor_144 rfl (Nat.lt_of_lt_of_le (Nat.le_of_ble_eq_true rfl) hn) (fun m26 => ?_)
          refine J_aload_n 0 0 113 dX9_aDoor_145 rfl rfl ?_
          refine J_getR 113 9 14 122 dX9_aDoor_146 fl_9_35 rfl rfl (Nat.lt_of_lt_of_le (Nat.le_of_ble_eq_true rfl) hn) rfl ?_
          refine J_iload_n 1 1 x1 dX9_aDoor_149 rfl rfl ?_
          refine J_iconst 2 dX9_aDoor_150 (by decide) ?_
          refine J_iadd dX9_aDoor_151 ?_
          refine J_iload 4 4 x13 dX9_aDoor_152 rfl ?_
          refine J_iast 122 60 dX9_aDoor_154 rfl (Nat.lt_of_lt_of_le (Nat.le_of_ble_eq_true rfl) hn) (fun m27 => ?_)
          refine J_aload_n 0 0 113 dX9_aDoor_155 rfl rfl ?_
          refine J_getR 113 9 14 122 dX9_aDoor_156 fl_9_35 rfl rfl (Nat.lt_of_lt_of_le (Nat.le_of_ble_eq_true rfl) hn) rfl ?_
          refine J_iload_n 1 1 x1 dX9_aDoor_159 rfl rfl ?_
          refine J_iconst 3 dX9_aDoor_160 (by decide) ?_
          refine J_iadd dX9_aDoor_161 ?_
          refine J_iload 5 5 x15 dX9_aDoor_162 rfl ?_
          refine J_iast 122 60 dX9_aDoor_164 rfl (Nat.lt_of_lt_of_le (Nat.le_of_ble_eq_true rfl) hn) (fun m28 => ?_)
          refine J_aload_n 0 0 113 dX9_aDoor_165 rfl rfl ?_
          refine J_getR 113 9 14 122 dX9_aDoor_166 fl_9_35 rfl rfl (Nat.lt_of_lt_of_le (Nat.le_of_ble_eq_true rfl) hn) rfl ?_
          refine J_iload_n 1 1 x1 dX9_aDoor_169 rfl rfl ?_
          refine J_iconst 4 dX9_aDoor_170 (by decide) ?_
          refine J_iadd dX9_aDoor_171 ?_
          refine J_iload 6 6 x17 dX9_aDoor_172 rfl ?_
          refine J_iast 122 60 dX9_aDoor_174 rfl (Nat.lt_of_lt_of_le (Nat.le_of_ble_eq_true rfl) hn) (fun m29 => ?_)
          refine J_aload_n 0 0 113 dX9_aDoor_175 rfl rfl ?_
          refine J_getR 113 9 14 122 dX9_aDoor_176 fl_9_35 rfl rfl (Nat.lt_of_lt_of_le (Nat.le_of_ble_eq_true rfl) hn) rfl ?_
          refine J_iload_n 1 1 x1 dX9_aDoor_179 rfl rfl ?_
          refine J_iconst 5 dX9_aDoor_180 (by decide) ?_
          refine J_iadd dX9_aDoor_181 ?_
          refine J_iload 7 7 y19 dX9_aDoor_182 rfl ?_
          refine J_seqJ 192 (fun y30 : Int32 => [(0, .ref 113)]) (fun y30 => [.int y30, .int (x1 + (5 : Int32)), .ref 122]) (fun y30 => m29) (fun y30 => ?_) (fun k1 hEy30 => ?_)
          · refine J_callSP 1 [.int y30] dX9_aDoor_192 mv_X9_flag mv_X9_flags lk_9_174 (ct_X9_flag F hn P D T m29 y30) rfl ⟨by decide, by decide⟩ (Nat.le_of_ble_eq_true rfl) (fun x31 => ?_)
            refine J_iast 122 60 dX9_aDoor_195 rfl (Nat.lt_of_lt_of_le (Nat.le_of_ble_eq_true rfl) hn) (fun m33 => ?_)
            refine J_aload_n 0 0 113 dX9_aDoor_196 rfl rfl ?_
            refine J_dup dX9_aDoor_197 rfl ?_
            refine J_getI 113 9 13 dX9_aDoor_198 fl_9_84 rfl rfl (Nat.lt_of_lt_of_le (Nat.le_of_ble_eq_true rfl) hn) ?_
            refine J_iconst 1 dX9_aDoor_201 (by decide) ?_
            refine J_iadd dX9_aDoor_202 ?_
            refine J_putI 113 9 13 dX9_aDoor_203 fl_9_84 rfl rfl (Nat.lt_of_lt_of_le (Nat.le_of_ble_eq_true rfl) hn) rfl rfl rfl (fun m34 => ?_)
            exact J_vretV dX9_aDoor_206 rfl rfl
          · refine J_if_ne 191 dX9_aDoor_184 (by decide) ?_ ?_
            · refine J_iconst 0 dX9_aDoor_191 (by decide) ?_
              exact J_lv [0] rfl (hEy30 0)
            · refine J_iconst 1 dX9_aDoor_187 (by decide) ?_
              refine J_goto 192 dX9_aDoor_188 (by decide) ?_
              exact J_lv [0] rfl (hEy30 1)
      · refine J_if_eq 122 dX9_aDoor_115 (by decide) ?_ ?_
        · exact J_lv [1, 2, 3, 4, 5, 6, 7, 0] rfl (hEy22 m18)
        · refine J_aload_n 0 1 113 dX9_aDoor_118 rfl rfl ?_
          refine J_callVV 113 9 0 [] dX9_aDoor_119 mv_X9_next mv_X9_nextv lk_9_160 (ct_X9_next F hn P D T m18) rfl rfl (by decide) rfl (Nat.lt_of_lt_of_le (Nat.le_of_ble_eq_true rfl) hn) ⟨by decide, by decide⟩ (Nat.le_of_ble_eq_true rfl) (fun m24 => ?_)
          exact J_lv [1, 2, 3, 4, 5, 6, 7, 0] rfl (hEy22 m24)
    · refine J_if_ne 110 dX9_aDoor_86 (by decide) ?_ ?_
      · refine J_iconst 0 dX9_aDoor_110 (by decide) ?_
        exact J_lv [3, 4, 5, 6, 2, 1, 0] rfl (hEy19 0)
      · refine J_aload_n 0 3 113 dX9_aDoor_89 rfl rfl ?_
        refine J_getI 113 9 25 dX9_aDoor_90 fl_9_138 rfl rfl (Nat.lt_of_lt_of_le (Nat.le_of_ble_eq_true rfl) hn) ?_
        refine J_iconst 1 dX9_aDoor_93 (by decide) ?_
        refine J_icmp_ne 110 dX9_aDoor_94 (by decide) ?_ ?_
        · refine J_iconst 0 dX9_aDoor_110 (by decide) ?_
          exact J_lv [3, 4, 5, 6, 2, 1, 0] rfl (hEy19 0)
        · refine J_aload_n 0 3 113 dX9_aDoor_97 rfl rfl ?_
          refine J_callVP 113 9 0 [] dX9_aDoor_98 mv_X9_nameNow mv_X9_nameNowv lk_9_171 (ct_X9_nameNow F hn P D T m18) rfl rfl (by decide) rfl (Nat.lt_of_lt_of_le (Nat.le_of_ble_eq_true rfl) hn) ⟨by decide, by decide⟩ (Nat.le_of_ble_eq_true rfl) (fun x20 => ?_)
          refine J_bipush 14 dX9_aDoor_101 (by decide) ?_
          refine J_icmp_ne 110 dX9_aDoor_103 (by decide) ?_ ?_
          · refine J_iconst 0 dX9_aDoor_110 (by decide) ?_
            exact J_lv [3, 4, 5, 6, 2, 1, 0] rfl (hEy19 0)
          · refine J_iconst 1 dX9_aDoor_106 (by decide) ?_
            refine J_goto 111 dX9_aDoor_107 (by decide) ?_
            exact J_lv [3, 4, 5, 6, 2, 1, 0] rfl (hEy19 1)
  · refine J_if_ne 51 dX9_aDoor_33 (by decide) ?_ ?_
    · exact J_lv [3, 2, 1, 0] rfl (hEy7 m5)
    · refine J_aload_n 0 3 113 dX9_aDoor_36 rfl rfl ?_
      refine J_iload_n 2 1 x2 dX9_aDoor_37 rfl rfl ?_
      refine J_iload_n 3 0 x6 dX9_aDoor_38 rfl rfl ?_
      refine J_seqJ 47 (fun y8 : Int32 => [(0, .ref 113), (1, .int x1), (2, .int x2), (3, .int x6)]) (fun y8 => [.int y8, .ref 113]) (fun y8 => m5) (fun y8 => ?_) (fun k1 hEy8 => ?_)
      · refine J_iconst 3 dX9_aDoor_47 (by decide) ?_
        refine J_callVV 113 9 2 [.int y8, .int 3] dX9_aDoor_48 mv_X9_needs mv_X9_needsv lk_9_152 (ct_X9_needs F hn P D T m5 y8 3) rfl rfl (by decide) rfl (Nat.lt_of_lt_of_le (Nat.le_of_ble_eq_true rfl) hn) ⟨by decide, by decide⟩ (Nat.le_of_ble_eq_true rfl) (fun m10 => ?_)
        exact J_lv [0, 1, 2, 3] rfl (hEy7 m10)
      · refine J_icmp_eq 46 dX9_aDoor_39 (by decide) ?_ ?_
        · refine J_iconst 0 dX9_aDoor_46 (by decide) ?_
          exact J_lv [3, 2, 1, 0] rfl (hEy8 0)
        · refine J_iconst 1 dX9_aDoor_42 (by decide) ?_
          refine J_goto 47 dX9_aDoor_43 (by decide) ?_
          exact J_lv [3, 2, 1, 0] rfl (hEy8 1)
def f_X9_aHold (F : Nat) (m : Mm) : Option (Mm) :=
  letv ((4 : Int32) * (m 113 11)) fun x1 => bind2 (f_X9_readNumber F m 1 99) fun x2 m3 => bind2 (f_X9_readNumber F m3 0 2) fun x4 m5 => bind2 (f_X9_readNumber F m5 0 18) fun x6 m7 => bind2 (f_X9_readNumber F m7 0 x2) fun x8 m9 => if (m9 113 27) = 0 then ((ast m9 121 32 x1 x2).bind fun m10 => (ast m10 121 32 (x1 + (1 : Int32)) x4).bind fun m11 => (ast m11 121 32 (x1 + (2 : Int32)) x6).bind fun m12 => (ast m12 121 32 (x1 + (3 : Int32)) x8).bind fun m13 => letv (up2 m13 113 11 ((m13 113 11) + (1 : Int32))) fun m14 => some m14) else (some m9)
set_option maxHeartbeats 4000000 in
set_option maxRecDepth 100000 in
theorem ct_X9_aHold (F : Nat) {n : Nat} (hn : 135 ≤ n) (P D : Nat) (T : Option Nat) (m : Mm)  : Ct yX9_aHold cX9_aHold 6 none 3 70 [.ref 113] n n m (RF P D T) (rV (RF P D T) (f_X9_aHold F m)) := by
  refine Ct.ofV (own := RX9) (nm := "aHold") [(0, .ref 113)] (by decide) (Nat.le_of_ble_eq_true rfl) rfl rfl rfl ?_
  unfold f_X9_aHold
  refine J_iconst 4 dX9_aHold_0 (by decide) ?_
  refine J_aload_n 0 0 113 dX9_aHold_1 rfl rfl ?_
  refine J_getI 113 9 11 dX9_aHold_2 fl_9_80 rfl rfl (Nat.lt_of_lt_of_le (Nat.le_of_ble_eq_true rfl) hn) ?_
  refine J_imul dX9_aHold_5 ?_
  refine J_let (fun x1 => ?_)
  refine J_istore_n 1 [(1, .int x1), (0, .ref 113)] dX9_aHold_6 rfl (by decide) rfl ?_
  refine J_aload_n 0 1 113 dX9_aHold_7 rfl rfl ?_
  refine J_iconst 1 dX9_aHold_8 (by decide) ?_
  refine J_bipush 99 dX9_aHold_9 (by decide) ?_
  refine J_callVI 113 9 2 [.int 1, .int 99] dX9_aHold_11 mv_X9_readNumber mv_X9_readNumberv lk_9_163 (ct_X9_readNumber F hn P D T m 1 99) rfl rfl (by decide) rfl (Nat.lt_of_lt_of_le (Nat.le_of_ble_eq_true rfl) hn) ⟨by decide, by decide⟩ (Nat.le_of_ble_eq_true rfl) (fun x2 m3 => ?_)
  refine J_istore_n 2 [(2, .int x2), (1, .int x1), (0, .ref 113)] dX9_aHold_14 rfl (by decide) rfl ?_
  refine J_aload_n 0 2 113 dX9_aHold_15 rfl rfl ?_
  refine J_iconst 0 dX9_aHold_16 (by decide) ?_
  refine J_iconst 2 dX9_aHold_17 (by decide) ?_
  refine J_callVI 113 9 2 [.int 0, .int 2] dX9_aHold_18 mv_X9_readNumber mv_X9_readNumberv lk_9_163 (ct_X9_readNumber F hn P D T m3 0 2) rfl rfl (by decide) rfl (Nat.lt_of_lt_of_le (Nat.le_of_ble_eq_true rfl) hn) ⟨by decide, by decide⟩ (Nat.le_of_ble_eq_true rfl) (fun x4 m5 => ?_)
  refine J_istore_n 3 [(3, .int x4), (2, .int x2), (1, .int x1), (0, .ref 113)] dX9_aHold_21 rfl (by decide) rfl ?_
  refine J_aload_n 0 3 113 dX9_aHold_22 rfl rfl ?_
  refine J_iconst 0 dX9_aHold_23 (by decide) ?_
  refine J_bipush 18 dX9_aHold_24 (by decide) ?_
  refine J_callVI 113 9 2 [.int 0, .int 18] dX9_aHold_26 mv_X9_readNumber mv_X9_readNumberv lk_9_163 (ct_X9_readNumber F hn P D T m5 0 18) rfl rfl (by decide) rfl (Nat.lt_of_lt_of_le (Nat.le_of_ble_eq_true rfl) hn) ⟨by decide, by decide⟩ (Nat.le_of_ble_eq_true rfl) (fun x6 m7 => ?_)
  refine J_istore 4 [(4, .int x6), (3, .int x4), (2, .int x2), (1, .int x1), (0, .ref 113)] dX9_aHold_29 (by decide) rfl ?_
  refine J_aload_n 0 4 113 dX9_aHold_31 rfl rfl ?_
  refine J_iconst 0 dX9_aHold_32 (by decide) ?_
  refine J_iload_n 2 2 x2 dX9_aHold_33 rfl rfl ?_
  refine J_callVI 113 9 2 [.int 0, .int x2] dX9_aHold_34 mv_X9_readNumber mv_X9_readNumberv lk_9_163 (ct_X9_readNumber F hn P D T m7 0 x2) rfl rfl (by decide) rfl (Nat.lt_of_lt_of_le (Nat.le_of_ble_eq_true rfl) hn) ⟨by decide, by decide⟩ (Nat.le_of_ble_eq_true rfl) (fun x8 m9 => ?_)
  refine J_istore 5 [(5, .int x8), (4, .int x6), (3, .int x4), (2, .int x2), (1, .int x1), (0, .ref 113)] dX9_aHold_37 (by decide) rfl ?_
  refine J_aload_n 0 5 113 dX9_aHold_39 rfl rfl ?_
  refine J_getI 113 9 27 dX9_aHold_40 fl_9_118 rfl rfl (Nat.lt_of_lt_of_le (Nat.le_of_ble_eq_true rfl) hn) ?_
  refine J_if_ne 92 dX9_aHold_43 (by decide) ?_ ?_
  · exact J_vretV dX9_aHold_92 rfl rfl
  · refine J_aload_n 0 5 113 dX9_aHold_46 rfl rfl ?_
    refine J_getR 113 9 12 121 dX9_aHold_47 fl_9_32 rfl rfl (Nat.lt_of_lt_of_le (Nat.le_of_ble_eq_true rfl) hn) rfl ?_
    refine J_iload_n 1 4 x1 dX9_aHold_50 rfl rfl ?_
    refine J_iload_n 2 3 x2 dX9_aHold_51 rfl rfl ?_
    refine J_iast 121 32 dX9_aHold_52 rfl (Nat.lt_of_lt_of_le (Nat.le_of_ble_eq_true rfl) hn) (fun m10 => ?_)
    refine J_aload_n 0 5 113 dX9_aHold_53 rfl rfl ?_
    refine J_getR 113 9 12 121 dX9_aHold_54 fl_9_32 rfl rfl (Nat.lt_of_lt_of_le (Nat.le_of_ble_eq_true rfl) hn) rfl ?_
    refine J_iload_n 1 4 x1 dX9_aHold_57 rfl rfl ?_
    refine J_iconst 1 dX9_aHold_58 (by decide) ?_
    refine J_iadd dX9_aHold_59 ?_
    refine J_iload_n 3 2 x4 dX9_aHold_60 rfl rfl ?_
    refine J_iast 121 32 dX9_aHold_61 rfl (Nat.lt_of_lt_of_le (Nat.le_of_ble_eq_true rfl) hn) (fun m11 => ?_)
    refine J_aload_n 0 5 113 dX9_aHold_62 rfl rfl ?_
    refine J_getR 113 9 12 121 dX9_aHold_63 fl_9_32 rfl rfl (Nat.lt_of_lt_of_le (Nat.le_of_ble_eq_true rfl) hn) rfl ?_
    refine J_iload_n 1 4 x1 dX9_aHold_66 rfl rfl ?_
    refine J_iconst 2 dX9_aHold_67 (by decide) ?_
    refine J_iadd dX9_aHold_68 ?_
    refine J_iload 4 1 x6 dX9_aHold_69 rfl ?_
    refine J_iast 121 32 dX9_aHold_71 rfl (Nat.lt_of_lt_of_le (Nat.le_of_ble_eq_true rfl) hn) (fun m12 => ?_)
    refine J_aload_n 0 5 113 dX9_aHold_72 rfl rfl ?_
    refine J_getR 113 9 12 121 dX9_aHold_73 fl_9_32 rfl rfl (Nat.lt_of_lt_of_le (Nat.le_of_ble_eq_true rfl) hn) rfl ?_
    refine J_iload_n 1 4 x1 dX9_aHold_76 rfl rfl ?_
    refine J_iconst 3 dX9_aHold_77 (by decide) ?_
    refine J_iadd dX9_aHold_78 ?_
    refine J_iload 5 0 x8 dX9_aHold_79 rfl ?_
    refine J_iast 121 32 dX9_aHold_81 rfl (Nat.lt_of_lt_of_le (Nat.le_of_ble_eq_true rfl) hn) (fun m13 => ?_)
    refine J_aload_n 0 5 113 dX9_aHold_82 rfl rfl ?_
    refine J_dup dX9_aHold_83 rfl ?_
    refine J_getI 113 9 11 dX9_aHold_84 fl_9_80 rfl rfl (Nat.lt_of_lt_of_le (Nat.le_of_ble_eq_true rfl) hn) ?_
    refine J_iconst 1 dX9_aHold_87 (by decide) ?_
    refine J_iadd dX9_aHold_88 ?_
    refine J_putI 113 9 11 dX9_aHold_89 fl_9_80 rfl rfl (Nat.lt_of_lt_of_le (Nat.le_of_ble_eq_true rfl) hn) rfl rfl rfl (fun m14 => ?_)
    exact J_vretV dX9_aHold_92 rfl rfl
def f_X9_aHole (F : Nat) (m : Mm) : Option (Mm) :=
  bind2 (f_X9_readHold F m) fun x1 m2 => bind2 (f_X9_readNumber F m2 1 20) fun x3 m4 => bind2 (f_X9_readNumber F m4 1 20) fun x5 m6 => if (m6 113 27) = 0 then ((ast m6 123 12 ((3 : Int32) * (m6 113 15)) x1).bind fun m7 => (ast m7 123 12 (((3 : Int32) * (m7 113 15)) + (1 : Int32)) x3).bind fun m8 => (ast m8 123 12 (((3 : Int32) * (m8 113 15)) + (2 : Int32)) x5).bind fun m9 => letv (up2 m9 113 15 ((m9 113 15) + (1 : Int32))) fun m10 => some m10) else (some m6)
set_option maxHeartbeats 4000000 in
set_option maxRecDepth 100000 in
theorem ct_X9_aHole (F : Nat) {n : Nat} (hn : 135 ≤ n) (P D : Nat) (T : Option Nat) (m : Mm)  : Ct yX9_aHole cX9_aHole 4 none 4 90 [.ref 113] n n m (RF P D T) (rV (RF P D T) (f_X9_aHole F m)) := by
  refine Ct.ofV (own := RX9) (nm := "aHole") [(0, .ref 113)] (by decide) (Nat.le_of_ble_eq_true rfl) rfl rfl rfl ?_
  unfold f_X9_aHole
  refine J_aload_n 0 0 113 dX9_aHole_0 rfl rfl ?_
  refine J_callVI 113 9 0 [] dX9_aHole_1 mv_X9_readHold mv_X9_readHoldv lk_9_167 (ct_X9_readHold F hn P D T m) rfl rfl (by decide) rfl (Nat.lt_of_lt_of_le (Nat.le_of_ble_eq_true rfl) hn) ⟨by decide, by decide⟩ (Nat.le_of_ble_eq_true rfl) (fun x1 m2 => ?_)
  refine J_istore_n 1 [(1, .int x1), (0, .ref 113)] dX9_aHole_4 rfl (by decide) rfl ?_
  refine J_aload_n 0 1 113 dX9_aHole_5 rfl rfl ?_
  refine J_iconst 1 dX9_aHole_6 (by decide) ?_
  refine J_bipush 20 dX9_aHole_7 (by decide) ?_
  refine J_callVI 113 9 2 [.int 1, .int 20] dX9_aHole_9 mv_X9_readNumber mv_X9_readNumberv lk_9_163 (ct_X9_readNumber F hn P D T m2 1 20) rfl rfl (by decide) rfl (Nat.lt_of_lt_of_le (Nat.le_of_ble_eq_true rfl) hn) ⟨by decide, by decide⟩ (Nat.le_of_ble_eq_true rfl) (fun x3 m4 => ?_)
  refine J_istore_n 2 [(2, .int x3), (1, .int x1), (0, .ref 113)] dX9_aHole_12 rfl (by decide) rfl ?_
  refine J_aload_n 0 2 113 dX9_aHole_13 rfl rfl ?_
  refine J_iconst 1 dX9_aHole_14 (by decide) ?_
  refine J_bipush 20 dX9_aHole_15 (by decide) ?_
  refine J_callVI 113 9 2 [.int 1, .int 20] dX9_aHole_17 mv_X9_readNumber mv_X9_readNumberv lk_9_163 (ct_X9_readNumber F hn P D T m4 1 20) rfl rfl (by decide) rfl (Nat.lt_of_lt_of_le (Nat.le_of_ble_eq_true rfl) hn) ⟨by decide, by decide⟩ (Nat.le_of_ble_eq_true rfl) (fun x5 m6 => ?_)
  refine J_istore_n 3 [(3, .int x5), (2, .int x3), (1, .int x1), (0, .ref 113)] dX9_aHole_20 rfl (by decide) rfl ?_
  refine J_aload_n 0 3 113 dX9_aHole_21 rfl rfl ?_
  refine J_getI 113 9 27 dX9_aHole_22 fl_9_118 rfl rfl (Nat.lt_of_lt_of_le (Nat.le_of_ble_eq_true rfl) hn) ?_
  refine J_if_ne 78 dX9_aHole_25 (by decide) ?_ ?_
  · exact J_vretV dX9_aHole_78 rfl rfl
  · refine J_aload_n 0 3 113 dX9_aHole_28 rfl rfl ?_
    refine J_getR 113 9 16 123 dX9_aHole_29 fl_9_38 rfl rfl (Nat.lt_of_lt_of_le (Nat.le_of_ble_eq_true rfl) hn) rfl ?_
    refine J_iconst 3 dX9_aHole_32 (by decide) ?_
    refine J_aload_n 0 3 113 dX9_aHole_33 rfl rfl ?_
    refine J_getI 113 9 15 dX9_aHole_34 fl_9_87 rfl rfl (Nat.lt_of_lt_of_le (Nat.le_of_ble_eq_true rfl) hn) ?_
    refine J_imul dX9_aHole_37 ?_
    refine J_iload_n 1 2 x1 dX9_aHole_38 rfl rfl ?_
    refine J_iast 123 12 dX9_aHole_39 rfl (Nat.lt_of_lt_of_le (Nat.le_of_ble_eq_true rfl) hn) (fun m7 => ?_)
    refine J_aload_n 0 3 113 dX9_aHole_40 rfl rfl ?_
    refine J_getR 113 9 16 123 dX9_aHole_41 fl_9_38 rfl rfl (Nat.lt_of_lt_of_le (Nat.le_of_ble_eq_true rfl) hn) rfl ?_
    refine J_iconst 3 dX9_aHole_44 (by decide) ?_
    refine J_aload_n 0 3 113 dX9_aHole_45 rfl rfl ?_
    refine J_getI 113 9 15 dX9_aHole_46 fl_9_87 rfl rfl (Nat.lt_of_lt_of_le (Nat.le_of_ble_eq_true rfl) hn) ?_
    refine J_imul dX9_aHole_49 ?_
    refine J_iconst 1 dX9_aHole_50 (by decide) ?_
    refine J_iadd dX9_aHole_51 ?_
    refine J_iload_n 2 1 x3 dX9_aHole_52 rfl rfl ?_
    refine J_iast 123 12 dX9_aHole_53 rfl (Nat.lt_of_lt_of_le (Nat.le_of_ble_eq_true rfl) hn) (fun m8 => ?_)
    refine J_aload_n 0 3 113 dX9_aHole_54 rfl rfl ?_
    refine J_getR 113 9 16 123 dX9_aHole_55 fl_9_38 rfl rfl (Nat.lt_of_lt_of_le (Nat.le_of_ble_eq_true rfl) hn) rfl ?_
    refine J_iconst 3 dX9_aHole_58 (by decide) ?_
    refine J_aload_n 0 3 113 dX9_aHole_59 rfl rfl ?_
    refine J_getI 113 9 15 dX9_aHole_60 fl_9_87 rfl rfl (Nat.lt_of_lt_of_le (Nat.le_of_ble_eq_true rfl) hn) ?_
    refine J_imul dX9_aHole_63 ?_
    refine J_iconst 2 dX9_aHole_64 (by decide) ?_
    refine J_iadd dX9_aHole_65 ?_
    refine J_iload_n 3 0 x5 dX9_aHole_66 rfl rfl ?_
    refine J_iast 123 12 dX9_aHole_67 rfl (Nat.lt_of_lt_of_le (Nat.le_of_ble_eq_true rfl) hn) (fun m9 => ?_)
    refine J_aload_n 0 3 113 dX9_aHole_68 rfl rfl ?_
    refine J_dup dX9_aHole_69 rfl ?_
    refine J_getI 113 9 15 dX9_aHole_70 fl_9_87 rfl rfl (Nat.lt_of_lt_of_le (Nat.le_of_ble_eq_true rfl) hn) ?_
    refine J_iconst 1 dX9_aHole_73 (by decide) ?_
    refine J_iadd dX9_aHole_74 ?_
    refine J_putI 113 9 15 dX9_aHole_75 fl_9_87 rfl rfl (Nat.lt_of_lt_of_le (Nat.le_of_ble_eq_true rfl) hn) rfl rfl rfl (fun m10 => ?_)
    exact J_vretV dX9_aHole_78 rfl rfl

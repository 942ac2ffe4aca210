theorem fl_9_289 : FL RX9 289 9 30 := ⟨by decide, by decide, tb 1052 (by decide +kernel) rfl⟩
theorem fl_9_293 : FL RX9 293 9 34 := ⟨by decide, by decide, tb 1056 (by decide +kernel) rfl⟩
theorem fl_9_305 : FL RX9 305 9 35 := ⟨by decide, by decide, tb 1057 (by decide +kernel) rfl⟩
theorem fl_9_350 : FL RX9 350 9 36 := ⟨by decide, by decide, tb 1058 (by decide +kernel) rfl⟩
theorem fl_9_59 : FL RX9 59 9 33 := ⟨by decide, by decide, tb 1055 (by decide +kernel) rfl⟩
theorem fl_9_65 : FL RX9 65 9 38 := ⟨by decide, by decide, tb 1060 (by decide +kernel) rfl⟩
theorem fl_9_68 : FL RX9 68 9 39 := ⟨by decide, by decide, tb 1061 (by decide +kernel) rfl⟩
theorem kl_9_180 : Cond.constantLong RX9 180 10 ∈ TBg := tb 1194 (by decide +kernel) rfl
theorem kl_9_308 : Cond.constantLong RX9 308 3 ∈ TBg := tb 1383 (by decide +kernel) rfl
theorem kl_9_310 : Cond.constantLong RX9 310 60 ∈ TBg := tb 1384 (by decide +kernel) rfl
theorem lk_9_280 : Cond.methodLink RX9 280 yX9_untilSunk ∈ TBg := tb 1359 (by decide +kernel) rfl
theorem lk_9_296 : Cond.methodLink RX9 296 yX9_isUnlike ∈ TBg := tb 1393 (by decide +kernel) rfl
theorem lk_9_299 : Cond.methodLink RX9 299 yX9_tries ∈ TBg := tb 1397 (by decide +kernel) rfl
theorem lk_9_302 : Cond.methodLink RX9 302 yX9_longer ∈ TBg := tb 1401 (by decide +kernel) rfl
theorem lk_9_312 : Cond.methodLink RX9 312 yX9_findChoices ∈ TBg := tb 1385 (by decide +kernel) rfl
theorem lk_9_315 : Cond.methodLink RX9 315 yX9_findBest ∈ TBg := tb 1389 (by decide +kernel) rfl
theorem mv_X9_findBest : MV yX9_findBest cX9_findBest 9 none 2 := ⟨tb 1392 (by decide +kernel) rfl, tb 13 (by decide +kernel) rfl, by decide +kernel⟩
theorem mv_X9_findBestv : Cond.instanceMethod yX9_findBest ∈ TBg ∧ Cond.selects yX9_findBest.cls yX9_findBest yX9_findBest ∈ TBg := ⟨tb 1391 (by decide +kernel) rfl, tbP (k := 42) 84 (by decide +kernel) rfl⟩
theorem mv_X9_findChoices : MV yX9_findChoices cX9_findChoices 2 none 0 := ⟨tb 1388 (by decide +kernel) rfl, tb 13 (by decide +kernel) rfl, by decide +kernel⟩
theorem mv_X9_findChoicesv : Cond.instanceMethod yX9_findChoices ∈ TBg ∧ Cond.selects yX9_findChoices.cls yX9_findChoices yX9_findChoices ∈ TBg := ⟨tb 1387 (by decide +kernel) rfl, tbP (k := 42) 83 (by decide +kernel) rfl⟩
theorem mv_X9_isUnlike : MV yX9_isUnlike cX9_isUnlike 5 (some .boolean) 1 := ⟨tb 1396 (by decide +kernel) rfl, tb 13 (by decide +kernel) rfl, by decide +kernel⟩
theorem mv_X9_isUnlikev : Cond.instanceMethod yX9_isUnlike ∈ TBg ∧ Cond.selects yX9_isUnlike.cls yX9_isUnlike yX9_isUnlike ∈ TBg := ⟨tb 1395 (by decide +kernel) rfl, tbP (k := 42) 85 (by decide +kernel) rfl⟩
theorem mv_X9_longer : MV yX9_longer cX9_longer 1 (some .int) 1 := ⟨tb 1403 (by decide +kernel) rfl, tb 13 (by decide +kernel) rfl, by decide +kernel⟩
theorem mv_X9_longers : Cond.static yX9_longer ∈ TBg := tb 1402 (by decide +kernel) rfl
theorem mv_X9_tries : MV yX9_tries cX9_tries 7 none 2 := ⟨tb 1400 (by decide +kernel) rfl, tb 13 (by decide +kernel) rfl, by decide +kernel⟩
theorem mv_X9_triesv : Cond.instanceMethod yX9_tries ∈ TBg ∧ Cond.selects yX9_tries.cls yX9_tries yX9_tries ∈ TBg := ⟨tb 1399 (by decide +kernel) rfl, tbP (k := 42) 86 (by decide +kernel) rfl⟩
theorem mv_X9_untilSunk : MV yX9_untilSunk cX9_untilSunk 1 (some .int) 0 := ⟨tb 1362 (by decide +kernel) rfl, tb 13 (by decide +kernel) rfl, by decide +kernel⟩
theorem mv_X9_untilSunkv : Cond.instanceMethod yX9_untilSunk ∈ TBg ∧ Cond.selects yX9_untilSunk.cls yX9_untilSunk yX9_untilSunk ∈ TBg := ⟨tb 1361 (by decide +kernel) rfl, tbP (k := 42) 80 (by decide +kernel) rfl⟩
theorem dX9_findBest_0 : decode cX9_findBest 0 = .ok (.iconst 1, 1) := by decide +kernel
theorem dX9_findBest_1 : decode cX9_findBest 1 = .ok (.istore_n 3, 1) := by decide +kernel
theorem dX9_findBest_2 : decode cX9_findBest 2 = .ok (.iconst 0, 1) := by decide +kernel
theorem dX9_findBest_3 : decode cX9_findBest 3 = .ok (.istore 4, 2) := by decide +kernel
theorem dX9_findBest_5 : decode cX9_findBest 5 = .ok (.iload 4, 2) := by decide +kernel
theorem dX9_findBest_7 : decode cX9_findBest 7 = .ok (.iload_n 1, 1) := by decide +kernel
theorem dX9_findBest_8 : decode cX9_findBest 8 = .ok (.if_icmp .ge 16, 3) := by decide +kernel
theorem dX9_findBest_11 : decode cX9_findBest 11 = .ok (.iload_n 3, 1) := by decide +kernel
theorem dX9_findBest_12 : decode cX9_findBest 12 = .ok (.aload_n 0, 1) := by decide +kernel
theorem dX9_findBest_13 : decode cX9_findBest 13 = .ok (.getfield 289, 3) := by decide +kernel
theorem dX9_findBest_16 : decode cX9_findBest 16 = .ok (.imul, 1) := by decide +kernel
theorem dX9_findBest_17 : decode cX9_findBest 17 = .ok (.istore_n 3, 1) := by decide +kernel
theorem dX9_findBest_18 : decode cX9_findBest 18 = .ok (.iinc 4 1, 3) := by decide +kernel
theorem dX9_findBest_21 : decode cX9_findBest 21 = .ok (.goto (-16), 3) := by decide +kernel
theorem dX9_findBest_24 : decode cX9_findBest 24 = .ok (.aload_n 0, 1) := by decide +kernel
theorem dX9_findBest_25 : decode cX9_findBest 25 = .ok (.iconst (-1), 1) := by decide +kernel
theorem dX9_findBest_26 : decode cX9_findBest 26 = .ok (.putfield 293, 3) := by decide +kernel
theorem dX9_findBest_29 : decode cX9_findBest 29 = .ok (.iconst 0, 1) := by decide +kernel
theorem dX9_findBest_30 : decode cX9_findBest 30 = .ok (.istore 4, 2) := by decide +kernel
theorem dX9_findBest_32 : decode cX9_findBest 32 = .ok (.iload 4, 2) := by decide +kernel
theorem dX9_findBest_34 : decode cX9_findBest 34 = .ok (.iload_n 3, 1) := by decide +kernel
theorem dX9_findBest_35 : decode cX9_findBest 35 = .ok (.if_icmp .ge 204, 3) := by decide +kernel
theorem dX9_findBest_38 : decode cX9_findBest 38 = .ok (.iload 4, 2) := by decide +kernel
theorem dX9_findBest_40 : decode cX9_findBest 40 = .ok (.istore 5, 2) := by decide +kernel
theorem dX9_findBest_42 : decode cX9_findBest 42 = .ok (.iload_n 1, 1) := by decide +kernel
theorem dX9_findBest_43 : decode cX9_findBest 43 = .ok (.iconst 1, 1) := by decide +kernel
theorem dX9_findBest_44 : decode cX9_findBest 44 = .ok (.isub, 1) := by decide +kernel
theorem dX9_findBest_45 : decode cX9_findBest 45 = .ok (.istore 6, 2) := by decide +kernel
theorem dX9_findBest_47 : decode cX9_findBest 47 = .ok (.iload 6, 2) := by decide +kernel
theorem dX9_findBest_49 : decode cX9_findBest 49 = .ok (.ifCond .lt 32, 3) := by decide +kernel
theorem dX9_findBest_52 : decode cX9_findBest 52 = .ok (.aload_n 0, 1) := by decide +kernel
theorem dX9_findBest_53 : decode cX9_findBest 53 = .ok (.getfield 56, 3) := by decide +kernel
theorem dX9_findBest_56 : decode cX9_findBest 56 = .ok (.iload 6, 2) := by decide +kernel
theorem dX9_findBest_58 : decode cX9_findBest 58 = .ok (.iload 5, 2) := by decide +kernel
theorem dX9_findBest_60 : decode cX9_findBest 60 = .ok (.aload_n 0, 1) := by decide +kernel
theorem dX9_findBest_61 : decode cX9_findBest 61 = .ok (.getfield 289, 3) := by decide +kernel
theorem dX9_findBest_64 : decode cX9_findBest 64 = .ok (.irem, 1) := by decide +kernel
theorem dX9_findBest_65 : decode cX9_findBest 65 = .ok (.iastore, 1) := by decide +kernel
theorem dX9_findBest_66 : decode cX9_findBest 66 = .ok (.iload 5, 2) := by decide +kernel
theorem dX9_findBest_68 : decode cX9_findBest 68 = .ok (.aload_n 0, 1) := by decide +kernel
theorem dX9_findBest_69 : decode cX9_findBest 69 = .ok (.getfield 289, 3) := by decide +kernel
theorem dX9_findBest_72 : decode cX9_findBest 72 = .ok (.idiv, 1) := by decide +kernel
theorem dX9_findBest_73 : decode cX9_findBest 73 = .ok (.istore 5, 2) := by decide +kernel
theorem dX9_findBest_75 : decode cX9_findBest 75 = .ok (.iinc 6 (-1), 3) := by decide +kernel
theorem dX9_findBest_78 : decode cX9_findBest 78 = .ok (.goto (-31), 3) := by decide +kernel
theorem dX9_findBest_81 : decode cX9_findBest 81 = .ok (.aload_n 0, 1) := by decide +kernel
theorem dX9_findBest_82 : decode cX9_findBest 82 = .ok (.iload_n 1, 1) := by decide +kernel
theorem dX9_findBest_83 : decode cX9_findBest 83 = .ok (.invokevirtual 296, 3) := by decide +kernel
theorem dX9_findBest_86 : decode cX9_findBest 86 = .ok (.ifCond .eq 147, 3) := by decide +kernel
theorem dX9_findBest_89 : decode cX9_findBest 89 = .ok (.aload_n 0, 1) := by decide +kernel
theorem dX9_findBest_90 : decode cX9_findBest 90 = .ok (.iload_n 1, 1) := by decide +kernel
theorem dX9_findBest_91 : decode cX9_findBest 91 = .ok (.iload_n 2, 1) := by decide +kernel
theorem dX9_findBest_92 : decode cX9_findBest 92 = .ok (.invokevirtual 299, 3) := by decide +kernel
theorem dX9_findBest_95 : decode cX9_findBest 95 = .ok (.aload_n 0, 1) := by decide +kernel
theorem dX9_findBest_96 : decode cX9_findBest 96 = .ok (.invokevirtual 280, 3) := by decide +kernel
theorem dX9_findBest_99 : decode cX9_findBest 99 = .ok (.invokestatic 302, 3) := by decide +kernel
theorem dX9_findBest_102 : decode cX9_findBest 102 = .ok (.istore 6, 2) := by decide +kernel
theorem dX9_findBest_104 : decode cX9_findBest 104 = .ok (.iload 6, 2) := by decide +kernel
theorem dX9_findBest_106 : decode cX9_findBest 106 = .ok (.aload_n 0, 1) := by decide +kernel
theorem dX9_findBest_107 : decode cX9_findBest 107 = .ok (.getfield 293, 3) := by decide +kernel
theorem dX9_findBest_110 : decode cX9_findBest 110 = .ok (.if_icmp .gt 26, 3) := by decide +kernel
theorem dX9_findBest_113 : decode cX9_findBest 113 = .ok (.iload 6, 2) := by decide +kernel
theorem dX9_findBest_115 : decode cX9_findBest 115 = .ok (.aload_n 0, 1) := by decide +kernel
theorem dX9_findBest_116 : decode cX9_findBest 116 = .ok (.getfield 293, 3) := by decide +kernel
theorem dX9_findBest_119 : decode cX9_findBest 119 = .ok (.if_icmp .ne 21, 3) := by decide +kernel
theorem dX9_findBest_122 : decode cX9_findBest 122 = .ok (.aload_n 0, 1) := by decide +kernel
theorem dX9_findBest_123 : decode cX9_findBest 123 = .ok (.sipush 384, 3) := by decide +kernel
theorem dX9_findBest_126 : decode cX9_findBest 126 = .ok (.invokevirtual 202, 3) := by decide +kernel
theorem dX9_findBest_129 : decode cX9_findBest 129 = .ok (.aload_n 0, 1) := by decide +kernel
theorem dX9_findBest_130 : decode cX9_findBest 130 = .ok (.getfield 305, 3) := by decide +kernel
theorem dX9_findBest_133 : decode cX9_findBest 133 = .ok (.if_icmp .ge 7, 3) := by decide +kernel
theorem dX9_findBest_136 : decode cX9_findBest 136 = .ok (.iconst 1, 1) := by decide +kernel
theorem dX9_findBest_137 : decode cX9_findBest 137 = .ok (.goto 4, 3) := by decide +kernel
theorem dX9_findBest_140 : decode cX9_findBest 140 = .ok (.iconst 0, 1) := by decide +kernel
theorem dX9_findBest_141 : decode cX9_findBest 141 = .ok (.istore 7, 2) := by decide +kernel
theorem dX9_findBest_143 : decode cX9_findBest 143 = .ok (.aload_n 0, 1) := by decide +kernel
theorem dX9_findBest_144 : decode cX9_findBest 144 = .ok (.iload 7, 2) := by decide +kernel
theorem dX9_findBest_146 : decode cX9_findBest 146 = .ok (.ifCond .eq 8, 3) := by decide +kernel
theorem dX9_findBest_149 : decode cX9_findBest 149 = .ok (.iload 6, 2) := by decide +kernel
theorem dX9_findBest_151 : decode cX9_findBest 151 = .ok (.goto 7, 3) := by decide +kernel
theorem dX9_findBest_154 : decode cX9_findBest 154 = .ok (.aload_n 0, 1) := by decide +kernel
theorem dX9_findBest_155 : decode cX9_findBest 155 = .ok (.getfield 293, 3) := by decide +kernel
theorem dX9_findBest_158 : decode cX9_findBest 158 = .ok (.putfield 293, 3) := by decide +kernel
theorem dX9_findBest_161 : decode cX9_findBest 161 = .ok (.aload_n 0, 1) := by decide +kernel
theorem dX9_findBest_162 : decode cX9_findBest 162 = .ok (.iload 7, 2) := by decide +kernel
theorem dX9_findBest_164 : decode cX9_findBest 164 = .ok (.ifCond .eq 13, 3) := by decide +kernel
theorem dX9_findBest_167 : decode cX9_findBest 167 = .ok (.aload_n 0, 1) := by decide +kernel
theorem dX9_findBest_168 : decode cX9_findBest 168 = .ok (.sipush 384, 3) := by decide +kernel
theorem dX9_findBest_171 : decode cX9_findBest 171 = .ok (.invokevirtual 202, 3) := by decide +kernel
theorem dX9_findBest_174 : decode cX9_findBest 174 = .ok (.goto 7, 3) := by decide +kernel
theorem dX9_findBest_177 : decode cX9_findBest 177 = .ok (.aload_n 0, 1) := by decide +kernel
theorem dX9_findBest_178 : decode cX9_findBest 178 = .ok (.getfield 305, 3) := by decide +kernel
theorem dX9_findBest_181 : decode cX9_findBest 181 = .ok (.putfield 305, 3) := by decide +kernel
theorem dX9_findBest_184 : decode cX9_findBest 184 = .ok (.iconst 0, 1) := by decide +kernel
theorem dX9_findBest_185 : decode cX9_findBest 185 = .ok (.istore 8, 2) := by decide +kernel
theorem dX9_findBest_187 : decode cX9_findBest 187 = .ok (.iload 8, 2) := by decide +kernel
theorem dX9_findBest_189 : decode cX9_findBest 189 = .ok (.iload_n 1, 1) := by decide +kernel
theorem dX9_findBest_190 : decode cX9_findBest 190 = .ok (.if_icmp .ge 43, 3) := by decide +kernel
theorem dX9_findBest_193 : decode cX9_findBest 193 = .ok (.aload_n 0, 1) := by decide +kernel
theorem dX9_findBest_194 : decode cX9_findBest 194 = .ok (.getfield 59, 3) := by decide +kernel
theorem dX9_findBest_197 : decode cX9_findBest 197 = .ok (.iload 8, 2) := by decide +kernel
theorem dX9_findBest_199 : decode cX9_findBest 199 = .ok (.iload 7, 2) := by decide +kernel
theorem dX9_findBest_201 : decode cX9_findBest 201 = .ok (.ifCond .eq 18, 3) := by decide +kernel
theorem dX9_findBest_204 : decode cX9_findBest 204 = .ok (.aload_n 0, 1) := by decide +kernel
theorem dX9_findBest_205 : decode cX9_findBest 205 = .ok (.getfield 53, 3) := by decide +kernel
theorem dX9_findBest_208 : decode cX9_findBest 208 = .ok (.aload_n 0, 1) := by decide +kernel
theorem dX9_findBest_209 : decode cX9_findBest 209 = .ok (.getfield 56, 3) := by decide +kernel
theorem dX9_findBest_212 : decode cX9_findBest 212 = .ok (.iload 8, 2) := by decide +kernel
theorem dX9_findBest_214 : decode cX9_findBest 214 = .ok (.iaload, 1) := by decide +kernel
theorem dX9_findBest_215 : decode cX9_findBest 215 = .ok (.iaload, 1) := by decide +kernel
theorem dX9_findBest_216 : decode cX9_findBest 216 = .ok (.goto 10, 3) := by decide +kernel
theorem dX9_findBest_219 : decode cX9_findBest 219 = .ok (.aload_n 0, 1) := by decide +kernel
theorem dX9_findBest_220 : decode cX9_findBest 220 = .ok (.getfield 59, 3) := by decide +kernel
theorem dX9_findBest_223 : decode cX9_findBest 223 = .ok (.iload 8, 2) := by decide +kernel
theorem dX9_findBest_225 : decode cX9_findBest 225 = .ok (.iaload, 1) := by decide +kernel
theorem dX9_findBest_226 : decode cX9_findBest 226 = .ok (.iastore, 1) := by decide +kernel
theorem dX9_findBest_227 : decode cX9_findBest 227 = .ok (.iinc 8 1, 3) := by decide +kernel
theorem dX9_findBest_230 : decode cX9_findBest 230 = .ok (.goto (-43), 3) := by decide +kernel
theorem dX9_findBest_233 : decode cX9_findBest 233 = .ok (.iinc 4 1, 3) := by decide +kernel
theorem dX9_findBest_236 : decode cX9_findBest 236 = .ok (.goto (-204), 3) := by decide +kernel
theorem dX9_findBest_239 : decode cX9_findBest 239 = .ok (.return_, 1) := by decide +kernel
theorem dX9_findChoices_0 : decode cX9_findChoices 0 = .ok (.aload_n 0, 1) := by decide +kernel
theorem dX9_findChoices_1 : decode cX9_findChoices 1 = .ok (.iconst 0, 1) := by decide +kernel
theorem dX9_findChoices_2 : decode cX9_findChoices 2 = .ok (.putfield 289, 3) := by decide +kernel
theorem dX9_findChoices_5 : decode cX9_findChoices 5 = .ok (.iconst 0, 1) := by decide +kernel
theorem dX9_findChoices_6 : decode cX9_findChoices 6 = .ok (.istore_n 1, 1) := by decide +kernel
theorem dX9_findChoices_7 : decode cX9_findChoices 7 = .ok (.iload_n 1, 1) := by decide +kernel
theorem dX9_findChoices_8 : decode cX9_findChoices 8 = .ok (.aload_n 0, 1) := by decide +kernel
theorem dX9_findChoices_9 : decode cX9_findChoices 9 = .ok (.getfield 96, 3) := by decide +kernel
theorem dX9_findChoices_12 : decode cX9_findChoices 12 = .ok (.if_icmp .ge 42, 3) := by decide +kernel
theorem dX9_findChoices_15 : decode cX9_findChoices 15 = .ok (.aload_n 0, 1) := by decide +kernel
theorem dX9_findChoices_16 : decode cX9_findChoices 16 = .ok (.getfield 7, 3) := by decide +kernel
theorem dX9_findChoices_19 : decode cX9_findChoices 19 = .ok (.bipush 16, 2) := by decide +kernel
theorem dX9_findChoices_21 : decode cX9_findChoices 21 = .ok (.iload_n 1, 1) := by decide +kernel
theorem dX9_findChoices_22 : decode cX9_findChoices 22 = .ok (.iadd, 1) := by decide +kernel
theorem dX9_findChoices_23 : decode cX9_findChoices 23 = .ok (.iaload, 1) := by decide +kernel
theorem dX9_findChoices_24 : decode cX9_findChoices 24 = .ok (.iconst 1, 1) := by decide +kernel
theorem dX9_findChoices_25 : decode cX9_findChoices 25 = .ok (.if_icmp .ne 23, 3) := by decide +kernel
theorem dX9_findChoices_28 : decode cX9_findChoices 28 = .ok (.aload_n 0, 1) := by decide +kernel
theorem dX9_findChoices_29 : decode cX9_findChoices 29 = .ok (.getfield 53, 3) := by decide +kernel
theorem dX9_findChoices_32 : decode cX9_findChoices 32 = .ok (.aload_n 0, 1) := by decide +kernel
theorem dX9_findChoices_33 : decode cX9_findChoices 33 = .ok (.getfield 289, 3) := by decide +kernel
theorem dX9_findChoices_36 : decode cX9_findChoices 36 = .ok (.iload_n 1, 1) := by decide +kernel
theorem dX9_findChoices_37 : decode cX9_findChoices 37 = .ok (.iastore, 1) := by decide +kernel
theorem dX9_findChoices_38 : decode cX9_findChoices 38 = .ok (.aload_n 0, 1) := by decide +kernel
theorem dX9_findChoices_39 : decode cX9_findChoices 39 = .ok (.dup, 1) := by decide +kernel
theorem dX9_findChoices_40 : decode cX9_findChoices 40 = .ok (.getfield 289, 3) := by decide +kernel
theorem dX9_findChoices_43 : decode cX9_findChoices 43 = .ok (.iconst 1, 1) := by decide +kernel
theorem dX9_findChoices_44 : decode cX9_findChoices 44 = .ok (.iadd, 1) := by decide +kernel
theorem dX9_findChoices_45 : decode cX9_findChoices 45 = .ok (.putfield 289, 3) := by decide +kernel
theorem dX9_findChoices_48 : decode cX9_findChoices 48 = .ok (.iinc 1 1, 3) := by decide +kernel
theorem dX9_findChoices_51 : decode cX9_findChoices 51 = .ok (.goto (-44), 3) := by decide +kernel
theorem dX9_findChoices_54 : decode cX9_findChoices 54 = .ok (.iconst 0, 1) := by decide +kernel
theorem dX9_findChoices_55 : decode cX9_findChoices 55 = .ok (.istore_n 1, 1) := by decide +kernel
theorem dX9_findChoices_56 : decode cX9_findChoices 56 = .ok (.iload_n 1, 1) := by decide +kernel
theorem dX9_findChoices_57 : decode cX9_findChoices 57 = .ok (.aload_n 0, 1) := by decide +kernel
theorem dX9_findChoices_58 : decode cX9_findChoices 58 = .ok (.getfield 99, 3) := by decide +kernel
theorem dX9_findChoices_61 : decode cX9_findChoices 61 = .ok (.if_icmp .ge 44, 3) := by decide +kernel
theorem dX9_findChoices_64 : decode cX9_findChoices 64 = .ok (.aload_n 0, 1) := by decide +kernel
theorem dX9_findChoices_65 : decode cX9_findChoices 65 = .ok (.getfield 7, 3) := by decide +kernel
theorem dX9_findChoices_68 : decode cX9_findChoices 68 = .ok (.bipush 36, 2) := by decide +kernel
theorem dX9_findChoices_70 : decode cX9_findChoices 70 = .ok (.iload_n 1, 1) := by decide +kernel
theorem dX9_findChoices_71 : decode cX9_findChoices 71 = .ok (.iadd, 1) := by decide +kernel
theorem dX9_findChoices_72 : decode cX9_findChoices 72 = .ok (.iaload, 1) := by decide +kernel
theorem dX9_findChoices_73 : decode cX9_findChoices 73 = .ok (.ifCond .ne 26, 3) := by decide +kernel
theorem dX9_findChoices_76 : decode cX9_findChoices 76 = .ok (.aload_n 0, 1) := by decide +kernel
theorem dX9_findChoices_77 : decode cX9_findChoices 77 = .ok (.getfield 53, 3) := by decide +kernel
theorem dX9_findChoices_80 : decode cX9_findChoices 80 = .ok (.aload_n 0, 1) := by decide +kernel
theorem dX9_findChoices_81 : decode cX9_findChoices 81 = .ok (.getfield 289, 3) := by decide +kernel
theorem dX9_findChoices_84 : decode cX9_findChoices 84 = .ok (.bipush 20, 2) := by decide +kernel
theorem dX9_findChoices_86 : decode cX9_findChoices 86 = .ok (.iload_n 1, 1) := by decide +kernel
theorem dX9_findChoices_87 : decode cX9_findChoices 87 = .ok (.iadd, 1) := by decide +kernel
theorem dX9_findChoices_88 : decode cX9_findChoices 88 = .ok (.iastore, 1) := by decide +kernel
theorem dX9_findChoices_89 : decode cX9_findChoices 89 = .ok (.aload_n 0, 1) := by decide +kernel
theorem dX9_findChoices_90 : decode cX9_findChoices 90 = .ok (.dup, 1) := by decide +kernel
theorem dX9_findChoices_91 : decode cX9_findChoices 91 = .ok (.getfield 289, 3) := by decide +kernel
theorem dX9_findChoices_94 : decode cX9_findChoices 94 = .ok (.iconst 1, 1) := by decide +kernel
theorem dX9_findChoices_95 : decode cX9_findChoices 95 = .ok (.iadd, 1) := by decide +kernel
theorem dX9_findChoices_96 : decode cX9_findChoices 96 = .ok (.putfield 289, 3) := by decide +kernel
theorem dX9_findChoices_99 : decode cX9_findChoices 99 = .ok (.iinc 1 1, 3) := by decide +kernel
theorem dX9_findChoices_102 : decode cX9_findChoices 102 = .ok (.goto (-46), 3) := by decide +kernel
theorem dX9_findChoices_105 : decode cX9_findChoices 105 = .ok (.return_, 1) := by decide +kernel
theorem dX9_best_0 : decode cX9_best 0 = .ok (.iload_n 1, 1) := by decide +kernel
theorem dX9_best_1 : decode cX9_best 1 = .ok (.i2l, 1) := by decide +kernel
theorem dX9_best_2 : decode cX9_best 2 = .ok (.lconst 0, 1) := by decide +kernel
theorem dX9_best_3 : decode cX9_best 3 = .ok (.ldc2_w 308, 3) := by decide +kernel
theorem dX9_best_6 : decode cX9_best 6 = .ok (.invokestatic 114, 3) := by decide +kernel
theorem dX9_best_9 : decode cX9_best 9 = .ok (.ifCond .eq 41, 3) := by decide +kernel
theorem dX9_best_12 : decode cX9_best 12 = .ok (.iload_n 2, 1) := by decide +kernel
theorem dX9_best_13 : decode cX9_best 13 = .ok (.i2l, 1) := by decide +kernel
theorem dX9_best_14 : decode cX9_best 14 = .ok (.lconst 1, 1) := by decide +kernel
theorem dX9_best_15 : decode cX9_best 15 = .ok (.ldc2_w 310, 3) := by decide +kernel
theorem dX9_best_18 : decode cX9_best 18 = .ok (.invokestatic 114, 3) := by decide +kernel
theorem dX9_best_21 : decode cX9_best 21 = .ok (.ifCond .eq 29, 3) := by decide +kernel
theorem dX9_best_24 : decode cX9_best 24 = .ok (.iload_n 3, 1) := by decide +kernel
theorem dX9_best_25 : decode cX9_best 25 = .ok (.i2l, 1) := by decide +kernel
theorem dX9_best_26 : decode cX9_best 26 = .ok (.lconst 0, 1) := by decide +kernel
theorem dX9_best_27 : decode cX9_best 27 = .ok (.lconst 1, 1) := by decide +kernel
theorem dX9_best_28 : decode cX9_best 28 = .ok (.invokestatic 114, 3) := by decide +kernel
theorem dX9_best_31 : decode cX9_best 31 = .ok (.ifCond .ne 21, 3) := by decide +kernel
theorem dX9_best_34 : decode cX9_best 34 = .ok (.iload_n 3, 1) := by decide +kernel
theorem dX9_best_35 : decode cX9_best 35 = .ok (.i2l, 1) := by decide +kernel
theorem dX9_best_36 : decode cX9_best 36 = .ok (.ldc2_w 180, 3) := by decide +kernel
theorem dX9_best_39 : decode cX9_best 39 = .ok (.bipush 9, 2) := by decide +kernel
theorem dX9_best_41 : decode cX9_best 41 = .ok (.iload_n 1, 1) := by decide +kernel
theorem dX9_best_42 : decode cX9_best 42 = .ok (.iadd, 1) := by decide +kernel
theorem dX9_best_43 : decode cX9_best 43 = .ok (.i2l, 1) := by decide +kernel
theorem dX9_best_44 : decode cX9_best 44 = .ok (.invokestatic 114, 3) := by decide +kernel
theorem dX9_best_47 : decode cX9_best 47 = .ok (.ifCond .ne 5, 3) := by decide +kernel
theorem dX9_best_50 : decode cX9_best 50 = .ok (.iconst (-1), 1) := by decide +kernel
theorem dX9_best_51 : decode cX9_best 51 = .ok (.ireturn, 1) := by decide +kernel
theorem dX9_best_52 : decode cX9_best 52 = .ok (.aload_n 0, 1) := by decide +kernel
theorem dX9_best_53 : decode cX9_best 53 = .ok (.invokevirtual 312, 3) := by decide +kernel
theorem dX9_best_56 : decode cX9_best 56 = .ok (.aload_n 0, 1) := by decide +kernel
theorem dX9_best_57 : decode cX9_best 57 = .ok (.getfield 289, 3) := by decide +kernel
theorem dX9_best_60 : decode cX9_best 60 = .ok (.iload_n 1, 1) := by decide +kernel
theorem dX9_best_61 : decode cX9_best 61 = .ok (.if_icmp .ge 6, 3) := by decide +kernel
theorem dX9_best_64 : decode cX9_best 64 = .ok (.bipush (-2), 2) := by decide +kernel
theorem dX9_best_66 : decode cX9_best 66 = .ok (.ireturn, 1) := by decide +kernel
theorem dX9_best_67 : decode cX9_best 67 = .ok (.aload_n 0, 1) := by decide +kernel
theorem dX9_best_68 : decode cX9_best 68 = .ok (.iload_n 1, 1) := by decide +kernel
theorem dX9_best_69 : decode cX9_best 69 = .ok (.iload_n 2, 1) := by decide +kernel
theorem dX9_best_70 : decode cX9_best 70 = .ok (.invokevirtual 315, 3) := by decide +kernel
theorem dX9_best_73 : decode cX9_best 73 = .ok (.iload_n 3, 1) := by decide +kernel
theorem dX9_best_74 : decode cX9_best 74 = .ok (.ifCond .ne 25, 3) := by decide +kernel
theorem dX9_best_77 : decode cX9_best 77 = .ok (.aload_n 0, 1) := by decide +kernel
theorem dX9_best_78 : decode cX9_best 78 = .ok (.getfield 293, 3) := by decide +kernel
theorem dX9_best_81 : decode cX9_best 81 = .ok (.ldc_w 292, 3) := by decide +kernel
theorem dX9_best_84 : decode cX9_best 84 = .ok (.if_icmp .ne 8, 3) := by decide +kernel
theorem dX9_best_87 : decode cX9_best 87 = .ok (.bipush (-4), 2) := by decide +kernel
theorem dX9_best_89 : decode cX9_best 89 = .ok (.goto 31, 3) := by decide +kernel
theorem dX9_best_92 : decode cX9_best 92 = .ok (.aload_n 0, 1) := by decide +kernel
theorem dX9_best_93 : decode cX9_best 93 = .ok (.getfield 293, 3) := by decide +kernel
theorem dX9_best_96 : decode cX9_best 96 = .ok (.goto 24, 3) := by decide +kernel
theorem dX9_best_99 : decode cX9_best 99 = .ok (.iload_n 3, 1) := by decide +kernel
theorem dX9_best_100 : decode cX9_best 100 = .ok (.iconst 1, 1) := by decide +kernel
theorem dX9_best_101 : decode cX9_best 101 = .ok (.if_icmp .ne 10, 3) := by decide +kernel
theorem dX9_best_104 : decode cX9_best 104 = .ok (.aload_n 0, 1) := by decide +kernel
theorem dX9_best_105 : decode cX9_best 105 = .ok (.getfield 305, 3) := by decide +kernel
theorem dX9_best_108 : decode cX9_best 108 = .ok (.goto 12, 3) := by decide +kernel
theorem dX9_best_111 : decode cX9_best 111 = .ok (.aload_n 0, 1) := by decide +kernel
theorem dX9_best_112 : decode cX9_best 112 = .ok (.getfield 59, 3) := by decide +kernel
theorem dX9_best_115 : decode cX9_best 115 = .ok (.iload_n 3, 1) := by decide +kernel
theorem dX9_best_116 : decode cX9_best 116 = .ok (.bipush 10, 2) := by decide +kernel
theorem dX9_best_118 : decode cX9_best 118 = .ok (.isub, 1) := by decide +kernel
theorem dX9_best_119 : decode cX9_best 119 = .ok (.iaload, 1) := by decide +kernel
theorem dX9_best_120 : decode cX9_best 120 = .ok (.ireturn, 1) := by decide +kernel
theorem dX9_canShut_0 : decode cX9_canShut 0 = .ok (.aload_n 0, 1) := by decide +kernel
theorem dX9_canShut_1 : decode cX9_canShut 1 = .ok (.getfield 7, 3) := by decide +kernel
theorem dX9_canShut_4 : decode cX9_canShut 4 = .ok (.bipush 16, 2) := by decide +kernel
theorem dX9_canShut_6 : decode cX9_canShut 6 = .ok (.iload_n 1, 1) := by decide +kernel
theorem dX9_canShut_7 : decode cX9_canShut 7 = .ok (.iadd, 1) := by decide +kernel
theorem dX9_canShut_8 : decode cX9_canShut 8 = .ok (.iaload, 1) := by decide +kernel
theorem dX9_canShut_9 : decode cX9_canShut 9 = .ok (.iconst 1, 1) := by decide +kernel
theorem dX9_canShut_10 : decode cX9_canShut 10 = .ok (.if_icmp .ne 19, 3) := by decide +kernel
theorem dX9_canShut_13 : decode cX9_canShut 13 = .ok (.aload_n 0, 1) := by decide +kernel
theorem dX9_canShut_14 : decode cX9_canShut 14 = .ok (.getfield 7, 3) := by decide +kernel
theorem dX9_canShut_17 : decode cX9_canShut 17 = .ok (.bipush 26, 2) := by decide +kernel
theorem dX9_canShut_19 : decode cX9_canShut 19 = .ok (.iload_n 1, 1) := by decide +kernel
theorem dX9_canShut_20 : decode cX9_canShut 20 = .ok (.iadd, 1) := by decide +kernel
theorem dX9_canShut_21 : decode cX9_canShut 21 = .ok (.iaload, 1) := by decide +kernel
theorem dX9_canShut_22 : decode cX9_canShut 22 = .ok (.ifCond .ne 7, 3) := by decide +kernel
theorem dX9_canShut_25 : decode cX9_canShut 25 = .ok (.iconst 1, 1) := by decide +kernel
theorem dX9_canShut_26 : decode cX9_canShut 26 = .ok (.goto 4, 3) := by decide +kernel
theorem dX9_canShut_29 : decode cX9_canShut 29 = .ok (.iconst 0, 1) := by decide +kernel
theorem dX9_canShut_30 : decode cX9_canShut 30 = .ok (.ireturn, 1) := by decide +kernel
theorem dX9_count_0 : decode cX9_count 0 = .ok (.iload_n 1, 1) := by decide +kernel
theorem dX9_count_1 : decode cX9_count 1 = .ok (.tableswitch 132 0 8 #[51, 56, 61, 66, 71, 79, 99, 104, 109], 51) := by decide +kernel
theorem dX9_count_52 : decode cX9_count 52 = .ok (.aload_n 0, 1) := by decide +kernel
theorem dX9_count_53 : decode cX9_count 53 = .ok (.getfield 93, 3) := by decide +kernel
theorem dX9_count_56 : decode cX9_count 56 = .ok (.ireturn, 1) := by decide +kernel
theorem dX9_count_57 : decode cX9_count 57 = .ok (.aload_n 0, 1) := by decide +kernel
theorem dX9_count_58 : decode cX9_count 58 = .ok (.getfield 96, 3) := by decide +kernel
theorem dX9_count_61 : decode cX9_count 61 = .ok (.ireturn, 1) := by decide +kernel
theorem dX9_count_62 : decode cX9_count 62 = .ok (.aload_n 0, 1) := by decide +kernel
theorem dX9_count_63 : decode cX9_count 63 = .ok (.getfield 99, 3) := by decide +kernel
theorem dX9_count_66 : decode cX9_count 66 = .ok (.ireturn, 1) := by decide +kernel
theorem dX9_count_67 : decode cX9_count 67 = .ok (.aload_n 0, 1) := by decide +kernel
theorem dX9_count_68 : decode cX9_count 68 = .ok (.getfield 102, 3) := by decide +kernel
theorem dX9_count_71 : decode cX9_count 71 = .ok (.ireturn, 1) := by decide +kernel
theorem dX9_count_72 : decode cX9_count 72 = .ok (.aload_n 0, 1) := by decide +kernel
theorem dX9_count_73 : decode cX9_count 73 = .ok (.getfield 7, 3) := by decide +kernel
theorem dX9_count_76 : decode cX9_count 76 = .ok (.bipush 76, 2) := by decide +kernel
theorem dX9_count_78 : decode cX9_count 78 = .ok (.iaload, 1) := by decide +kernel
theorem dX9_count_79 : decode cX9_count 79 = .ok (.ireturn, 1) := by decide +kernel
theorem dX9_count_80 : decode cX9_count 80 = .ok (.aload_n 0, 1) := by decide +kernel
theorem dX9_count_81 : decode cX9_count 81 = .ok (.getfield 13, 3) := by decide +kernel
theorem dX9_count_84 : decode cX9_count 84 = .ok (.iconst 0, 1) := by decide +kernel
theorem dX9_count_85 : decode cX9_count 85 = .ok (.baload, 1) := by decide +kernel
theorem dX9_count_86 : decode cX9_count 86 = .ok (.invokestatic 174, 3) := by decide +kernel
theorem dX9_count_89 : decode cX9_count 89 = .ok (.aload_n 0, 1) := by decide +kernel
theorem dX9_count_90 : decode cX9_count 90 = .ok (.getfield 13, 3) := by decide +kernel
theorem dX9_count_93 : decode cX9_count 93 = .ok (.iconst 1, 1) := by decide +kernel
theorem dX9_count_94 : decode cX9_count 94 = .ok (.baload, 1) := by decide +kernel
theorem dX9_count_95 : decode cX9_count 95 = .ok (.invokestatic 174, 3) := by decide +kernel
theorem dX9_count_98 : decode cX9_count 98 = .ok (.iadd, 1) := by decide +kernel
theorem dX9_count_99 : decode cX9_count 99 = .ok (.ireturn, 1) := by decide +kernel
theorem dX9_count_100 : decode cX9_count 100 = .ok (.aload_n 0, 1) := by decide +kernel
theorem dX9_count_101 : decode cX9_count 101 = .ok (.getfield 350, 3) := by decide +kernel
theorem dX9_count_104 : decode cX9_count 104 = .ok (.ireturn, 1) := by decide +kernel
theorem dX9_count_105 : decode cX9_count 105 = .ok (.aload_n 0, 1) := by decide +kernel
theorem dX9_count_106 : decode cX9_count 106 = .ok (.getfield 109, 3) := by decide +kernel
theorem dX9_count_109 : decode cX9_count 109 = .ok (.ireturn, 1) := by decide +kernel
theorem dX9_count_110 : decode cX9_count 110 = .ok (.aload_n 0, 1) := by decide +kernel
theorem dX9_count_111 : decode cX9_count 111 = .ok (.getfield 65, 3) := by decide +kernel
theorem dX9_count_114 : decode cX9_count 114 = .ok (.iconst 0, 1) := by decide +kernel
theorem dX9_count_115 : decode cX9_count 115 = .ok (.iaload, 1) := by decide +kernel
theorem dX9_count_116 : decode cX9_count 116 = .ok (.bipush (-4), 2) := by decide +kernel
theorem dX9_count_118 : decode cX9_count 118 = .ok (.if_icmp .ne 8, 3) := by decide +kernel
theorem dX9_count_121 : decode cX9_count 121 = .ok (.bipush (-4), 2) := by decide +kernel
theorem dX9_count_123 : decode cX9_count 123 = .ok (.goto 9, 3) := by decide +kernel
theorem dX9_count_126 : decode cX9_count 126 = .ok (.aload_n 0, 1) := by decide +kernel
theorem dX9_count_127 : decode cX9_count 127 = .ok (.getfield 68, 3) := by decide +kernel
theorem dX9_count_130 : decode cX9_count 130 = .ok (.iconst 0, 1) := by decide +kernel
theorem dX9_count_131 : decode cX9_count 131 = .ok (.iaload, 1) := by decide +kernel
theorem dX9_count_132 : decode cX9_count 132 = .ok (.ireturn, 1) := by decide +kernel
theorem dX9_count_133 : decode cX9_count 133 = .ok (.iconst (-1), 1) := by decide +kernel
theorem dX9_count_134 : decode cX9_count 134 = .ok (.ireturn, 1) := by decide +kernel
def b_X9_findBest_5 (m : Mm) (a1 : Int32) (t1 : Int32 × Int32) : Option ((Int32 × Int32) ⊕ (Int32)) :=
  if a1 ≤ t1.2 then (some (Sum.inr t1.1)) else (letv (t1.1 * (m 113 30)) fun x3 => some (Sum.inl (x3, t1.2 + 1)))
def b_X9_findBest_47  (t8 : Int32 × Int32 × Mm) : Option ((Int32 × Int32 × Mm) ⊕ (Mm)) :=
  if t8.2.1 < 0 then (some (Sum.inr t8.2.2)) else ((orem t8.1 (t8.2.2 113 30)).bind fun x10 => (ast t8.2.2 129 3 t8.2.1 x10).bind fun m11 => (odiv t8.1 (m11 113 30)).bind fun x12 => some (Sum.inl (x12, t8.2.1 + (-1), m11)))
def b_X9_findBest_187 (a1 : Int32) (y22 : Int32) (t31 : Int32 × Mm) : Option ((Int32 × Mm) ⊕ (Mm)) :=
  if a1 ≤ t31.1 then (some (Sum.inr t31.2)) else ((if y22 = 0 then ((ald t31.2 130 3 t31.1).bind fun x34 => some x34) else ((ald t31.2 129 3 t31.1).bind fun x35 => (ald t31.2 128 14 x35).bind fun x36 => some x36) : Option (Int32)).bind fun y33 => (ast t31.2 130 3 t31.1 y33).bind fun m37 => some (Sum.inl (t31.1 + 1, m37)))
def b_X9_findBest_32 (F : Nat) (a1 : Int32) (a2 : Int32) (e2 : Int32) (t5 : Int32 × Mm) : Option ((Int32 × Mm) ⊕ (Mm)) :=
  if e2 ≤ t5.1 then (some (Sum.inr t5.2)) else (letv (a1 - (1 : Int32)) fun x7 => (iter F b_X9_findBest_47 ((t5.1, x7, t5.2) : Int32 × Int32 × Mm)).bind (fun e9 : Mm => (f_X9_isUnlike F e9 a1).bind fun x13 => (if x13 = 0 then (some e9) else ((f_X9_tries F e9 a1 a2).bind fun m17 => (f_X9_untilSunk m17).bind fun x18 => (f_X9_longer x18).bind fun x20 => (if (m17 113 34) < x20 then (some 1) else (if x20 = (m17 113 34) then ((f_X9_allOf F m17 384).bind fun x23 => if (m17 113 35) ≤ x23 then (some 0) else (some 1)) else (some 0)) : Option (Int32)).bind fun y22 => (if y22 = 0 then (some (m17 113 34)) else (some x20) : Option (Int32)).bind fun y25 => letv (up2 m17 113 34 y25) fun m26 => (if y22 = 0 then (some (m26 113 35)) else ((f_X9_allOf F m26 384).bind fun x28 => some x28) : Option (Int32)).bind fun y27 => letv (up2 m26 113 35 y27) fun m30 => (iter F (b_X9_findBest_187 a1 y22) ((0, m30) : Int32 × Mm)).bind (fun e32 : Mm => some e32)) : Option (Mm)).bind fun y15 => some (Sum.inl (t5.1 + 1, y15))))
def f_X9_findBest (F : Nat) (m : Mm) (a1 : Int32) (a2 : Int32) : Option (Mm) :=
  (iter F (b_X9_findBest_5 m a1) ((1, 0) : Int32 × Int32)).bind (fun e2 : Int32 => letv (up2 m 113 34 (-1)) fun m4 => (iter F (b_X9_findBest_32 F a1 a2 e2) ((0, m4) : Int32 × Mm)).bind (fun e6 : Mm => some e6))
set_option maxHeartbeats 4000000 in
set_option maxRecDepth 100000 in
theorem ct_X9_findBest (F : Nat) {n : Nat} (hn : 135 ≤ n) (P D : Nat) (T : Option Nat) (m : Mm) (a1 : Int32) (a2 : Int32) : Ct yX9_findBest cX9_findBest 9 none 6 132 [.ref 113, .int a1, .int a2] n n m (RF P D T) (rV (RF P D T) (f_X9_findBest F m a1 a2)) := by
  refine Ct.ofV (own := RX9) (nm := "findBest") [(0, .ref 113), (1, .int a1), (2, .int a2)] (by decide) (Nat.le_of_ble_eq_true rfl) rfl rfl rfl ?_
  unfold f_X9_findBest
  refine J_iconst 1 dX9_findBest_0 (by decide) ?_
  refine J_istore_n 3 [(3, .int 1), (0, .ref 113), (1, .int a1), (2, .int a2)] dX9_findBest_1 rfl (by decide) rfl ?_
  refine J_iconst 0 dX9_findBest_2 (by decide) ?_
  refine J_istore 4 [(4, .int 0), (3, .int 1), (0, .ref 113), (1, .int a1), (2, .int a2)] dX9_findBest_3 (by decide) rfl ?_
  refine J_lv [2, 3, 4, 1, 0] rfl ?_
  refine J_loop (pc := 5) (fun t1 : Int32 × Int32 => [(0, .ref 113), (1, .int a1), (2, .int a2), (3, .int t1.1), (4, .int t1.2)]) (fun t1 => m) (fun _ => 24) (fun e2 => [(0, .ref 113), (1, .int a1), (2, .int a2), (3, .int e2)]) (fun _ => []) (fun e2 => m) ?_ (fun t1 k1 hBt1 hXt1 => ?_) F ((1, 0))
  · refine fun e2 => ?_
    refine J_aload_n 0 0 113 dX9_findBest_24 rfl rfl ?_
    refine J_iconst (-1) dX9_findBest_25 (by decide) ?_
    refine J_putI 113 9 34 dX9_findBest_26 fl_9_293 rfl rfl (Nat.lt_of_lt_of_le (Nat.le_of_ble_eq_true rfl) hn) rfl rfl rfl (fun m4 => ?_)
    refine J_iconst 0 dX9_findBest_29 (by decide) ?_
    refine J_istore 4 [(4, .int 0), (0, .ref 113), (1, .int a1), (2, .int a2), (3, .int e2)] dX9_findBest_30 (by decide) rfl ?_
    refine J_lv [1, 2, 3, 4, 0] rfl ?_
    refine J_loop (pc := 32) (fun t5 : Int32 × Mm => [(0, .ref 113), (1, .int a1), (2, .int a2), (3, .int e2), (4, .int t5.1)]) (fun t5 => t5.2) (fun _ => 239) (fun e6 => []) (fun _ => []) (fun e6 => e6) ?_ (fun t5 k1 hBt5 hXt5 => ?_) F ((0, m4))
    · refine fun e6 => ?_
      exact J_vretV dX9_findBest_239 rfl rfl
    · unfold b_X9_findBest_32
      refine J_iload 4 4 t5.1 dX9_findBest_32 rfl ?_
      refine J_iload_n 3 3 e2 dX9_findBest_34 rfl rfl ?_
      refine J_icmp_ge 239 dX9_findBest_35 (by decide) ?_ ?_
      · exact J_lv [] rfl (hXt5 t5.2)
      · refine J_iload 4 4 t5.1 dX9_findBest_38 rfl ?_
        refine J_istore 5 [(5, .int t5.1), (0, .ref 113), (1, .int a1), (2, .int a2), (3, .int e2), (4, .int t5.1)] dX9_findBest_40 (by decide) rfl ?_
        refine J_iload_n 1 2 a1 dX9_findBest_42 rfl rfl ?_
        refine J_iconst 1 dX9_findBest_43 (by decide) ?_
        refine J_isub dX9_findBest_44 ?_
        refine J_let (fun x7 => ?_)
        refine J_istore 6 [(6, .int x7), (5, .int t5.1), (0, .ref 113), (1, .int a1), (2, .int a2), (3, .int e2), (4, .int t5.1)] dX9_findBest_45 (by decide) rfl ?_
        refine J_lv [2, 3, 4, 5, 6, 1, 0] rfl ?_
        refine J_loop (pc := 47) (fun t8 : Int32 × Int32 × Mm => [(0, .ref 113), (1, .int a1), (2, .int a2), (3, .int e2), (4, .int t5.1), (5, .int t8.1), (6, .int t8.2.1)]) (fun t8 => t8.2.2) (fun _ => 81) (fun e9 => [(0, .ref 113), (1, .int a1), (2, .int a2), (3, .int e2), (4, .int t5.1)]) (fun _ => []) (fun e9 => e9) ?_ (fun t8 k1 hBt8 hXt8 => ?_) F ((t5.1, x7, t5.2))
        · refine fun e9 => ?_
          refine J_aload_n 0 0 113 dX9_findBest_81 rfl rfl ?_
          refine J_iload_n 1 1 a1 dX9_findBest_82 rfl rfl ?_
          refine J_callVP 113 9 1 [.int a1] dX9_findBest_83 mv_X9_isUnlike mv_X9_isUnlikev lk_9_296 (ct_X9_isUnlike F hn P D T e9 a1) rfl rfl (by decide) rfl (Nat.lt_of_lt_of_le (Nat.le_of_ble_eq_true rfl) hn) ⟨by decide, by decide⟩ (Nat.le_of_ble_eq_true rfl) (fun x13 => ?_)
          refine J_seqJ 233 (fun y15 : Mm => [(0, .ref 113), (1, .int a1), (2, .int a2), (3, .int e2), (4, .int t5.1)]) (fun y15 => []) (fun y15 => y15) (fun y15 => ?_) (fun k1 hEy15 => ?_)
          · refine J_iinc 4 4 [(4, .int (t5.1 + 1)), (0, .ref 113), (1, .int a1), (2, .int a2), (3, .int e2)] t5.1 (t5.1 + 1) dX9_findBest_233 rfl rfl (by decide) rfl ?_
            refine J_goto 32 dX9_findBest_236 (by decide) ?_
            exact J_lv [1, 2, 3, 4, 0] rfl (hBt5 (t5.1 + 1, y15))
          · refine J_if_eq 233 dX9_findBest_86 (by decide) ?_ ?_
            · exact J_lv [0, 1, 2, 3, 4] rfl (hEy15 e9)
            · refine J_aload_n 0 0 113 dX9_findBest_89 rfl rfl ?_
              refine J_iload_n 1 1 a1 dX9_findBest_90 rfl rfl ?_
              refine J_iload_n 2 2 a2 dX9_findBest_91 rfl rfl ?_
              refine J_callVV 113 9 2 [.int a1, .int a2] dX9_findBest_92 mv_X9_tries mv_X9_triesv lk_9_299 (ct_X9_tries F hn P D T e9 a1 a2) rfl rfl (by decide) rfl (Nat.lt_of_lt_of_le (Nat.le_of_ble_eq_true rfl) hn) ⟨by decide, by decide⟩ (Nat.le_of_ble_eq_true rfl) (fun m17 => ?_)
              refine J_aload_n 0 0 113 dX9_findBest_95 rfl rfl ?_
              refine J_callVP 113 9 0 [] dX9_findBest_96 mv_X9_untilSunk mv_X9_untilSunkv lk_9_280 (ct_X9_untilSunk F hn P D T m17) rfl rfl (by decide) rfl (Nat.lt_of_lt_of_le (Nat.le_of_ble_eq_true rfl) hn) ⟨by decide, by decide⟩ (Nat.le_of_ble_eq_true rfl) (fun x18 => ?_)
              refine J_callSP 1 [.int x18] dX9_findBest_99 mv_X9_longer mv_X9_longers lk_9_302 (ct_X9_longer F hn P D T m17 x18) rfl ⟨by decide, by decide⟩ (Nat.le_of_ble_eq_true rfl) (fun x20 => ?_)
              refine J_istore 6 [(6, .int x20), (0, .ref 113), (1, .int a1), (2, .int a2), (3, .int e2), (4, .int t5.1)] dX9_findBest_102 (by decide) rfl ?_
              refine J_iload 6 0 x20 dX9_findBest_104 rfl ?_
              refine J_aload_n 0 1 113 dX9_findBest_106 rfl rfl ?_
              refine J_getI 113 9 34 dX9_findBest_107 fl_9_293 rfl rfl (Nat.lt_of_lt_of_le (Nat.le_of_ble_eq_true rfl) hn) ?_
              refine J_seqJ 141 (fun y22 : Int32 => [(0, .ref 113), (1, .int a1), (2, .int a2), (3, .int e2), (4, .int t5.1), (6, .int x20)]) (fun y22 => [.int y22]) (fun y22 => m17) (fun y22 => ?_) (fun k1 hEy22 => ?_)
              · refine J_istore 7 [(7, .int y22), (0, .ref 113), (1, .int a1), (2, .int a2), (3, .int e2), (4, .int t5.1), (6, .int x20)] dX9_findBest_141 (by decide) rfl ?_
                refine J_aload_n 0 1 113 dX9_findBest_143 rfl rfl ?_
                refine J_iload 7 0 y22 dX9_findBest_144 rfl ?_
                refine J_seqJ 158 (fun y25 : Int32 => [(0, .ref 113), (1, .int a1), (2, .int a2), (3, .int e2), (4, .int t5.1), (7, .int y22)]) (fun y25 => [.int y25, .ref 113]) (fun y25 => m17) (fun y25 => ?_) (fun k1 hEy25 => ?_)
                · refine J_putI 113 9 34 dX9_findBest_158 fl_9_293 rfl rfl (Nat.lt_of_lt_of_le (Nat.le_of_ble_eq_true rfl) hn) rfl rfl rfl (fun m26 => ?_)
                  refine J_aload_n 0 0 113 dX9_findBest_161 rfl rfl ?_
                  refine J_iload 7 5 y22 dX9_findBest_162 rfl ?_
                  refine J_seqJ 181 (fun y27 : Int32 => [(0, .ref 113), (1, .int a1), (2, .int a2), (3, .int e2), (4, .int t5.1), (7, .int y22)]) (fun y27 => [.int y27, .ref 113]) (fun y27 => m26) (fun y27 => ?_) (fun k1 hEy27 => ?_)
                  · refine J_putI 113 9 35 dX9_findBest_181 fl_9_305 rfl rfl (Nat.lt_of_lt_of_le (Nat.le_of_ble_eq_true rfl) hn) rfl rfl rfl (fun m30 => ?_)
                    refine J_iconst 0 dX9_findBest_184 (by decide) ?_
                    refine J_istore 8 [(8, .int 0), (0, .ref 113), (1, .int a1), (2, .int a2), (3, .int e2), (4, .int t5.1), (7, .int y22)] dX9_findBest_185 (by decide) rfl ?_
                    refine J_lv [1, 2, 3, 4, 5, 6, 0] rfl ?_
                    refine J_loop (pc := 187) (fun t31 : Int32 × Mm => [(0, .ref 113), (1, .int a1), (2, .int a2), (3, .int e2), (4, .int t5.1), (7, .int y22), (8, .int t31.1)]) (fun t31 => t31.2) (fun _ => 233) (fun e32 => [(0, .ref 113), (1, .int a1), (2, .int a2), (3, .int e2), (4, .int t5.1)]) (fun _ => []) (fun e32 => e32) ?_ (fun t31 k1 hBt31 hXt31 => ?_) F ((0, m30))
                    · refine fun e32 => ?_
                      exact J_lv [0, 1, 2, 3, 4] rfl (hEy15 e32)
                    · unfold b_X9_findBest_187
                      refine J_iload 8 6 t31.1 dX9_findBest_187 rfl ?_
                      refine J_iload_n 1 1 a1 dX9_findBest_189 rfl rfl ?_
                      refine J_icmp_ge 233 dX9_findBest_190 (by decide) ?_ ?_
                      · exact J_lv [0, 1, 2, 3, 4] rfl (hXt31 t31.2)
                      · refine J_aload_n 0 0 113 dX9_findBest_193 rfl rfl ?_
                        refine J_getR 113 9 33 130 dX9_findBest_194 fl_9_59 rfl rfl (Nat.lt_of_lt_of_le (Nat.le_of_ble_eq_true rfl) hn) rfl ?_
                        refine J_iload 8 6 t31.1 dX9_findBest_197 rfl ?_
                        refine J_iload 7 5 y22 dX9_findBest_199 rfl ?_
                        refine J_seqJ 226 (fun y33 : Int32 => [(0, .ref 113), (1, .int a1), (2, .int a2), (3, .int e2), (4, .int t5.1), (7, .int y22), (8, .int t31.1)]) (fun y33 => [.int y33, .int t31.1, .ref 130]) (fun y33 => t31.2) (fun y33 => ?_) (fun k1 hEy33 => ?_)
                        · refine J_iast 130 3 dX9_findBest_226 rfl (Nat.lt_of_lt_of_le (Nat.le_of_ble_eq_true rfl) hn) (fun m37 => ?_)
                          refine J_iinc 8 6 [(8, .int (t31.1 + 1)), (0, .ref 113), (1, .int a1), (2, .int a2), (3, .int e2), (4, .int t5.1), (7, .int y22)] t31.1 (t31.1 + 1) dX9_findBest_227 rfl rfl (by decide) rfl ?_
                          refine J_goto 187 dX9_findBest_230 (by decide) ?_
                          exact J_lv [1, 2, 3, 4, 5, 6, 0] rfl (hBt31 (t31.1 + 1, m37))
                        · refine J_if_eq 219 dX9_findBest_201 (by decide) ?_ ?_
                          · refine J_aload_n 0 0 113 dX9_findBest_219 rfl rfl ?_
                            refine J_getR 113 9 33 130 dX9_findBest_220 fl_9_59 rfl rfl (Nat.lt_of_lt_of_le (Nat.le_of_ble_eq_true rfl) hn) rfl ?_
                            refine J_iload 8 6 t31.1 dX9_findBest_223 rfl ?_
                            refine J_iald 130 3 dX9_findBest_225 rfl (Nat.lt_of_lt_of_le (Nat.le_of_ble_eq_true rfl) hn) (fun x34 => ?_)
                            exact J_lv [0, 1, 2, 3, 4, 5, 6] rfl (hEy33 x34)
                          · refine J_aload_n 0 0 113 dX9_findBest_204 rfl rfl ?_
                            refine J_getR 113 9 31 128 dX9_findBest_205 fl_9_53 rfl rfl (Nat.lt_of_lt_of_le (Nat.le_of_ble_eq_true rfl) hn) rfl ?_
                            refine J_aload_n 0 0 113 dX9_findBest_208 rfl rfl ?_
                            refine J_getR 113 9 32 129 dX9_findBest_209 fl_9_56 rfl rfl (Nat.lt_of_lt_of_le (Nat.le_of_ble_eq_true rfl) hn) rfl ?_
                            refine J_iload 8 6 t31.1 dX9_findBest_212 rfl ?_
                            refine J_iald 129 3 dX9_findBest_214 rfl (Nat.lt_of_lt_of_le (Nat.le_of_ble_eq_true rfl) hn) (fun x35 => ?_)
                            refine J_iald 128 14 dX9_findBest_215 rfl (Nat.lt_of_lt_of_le (Nat.le_of_ble_eq_true rfl) hn) (fun x36 => ?_)
                            refine J_goto 226 dX9_findBest_216 (by decide) ?_
                            exact J_lv [0, 1, 2, 3, 4, 5, 6] rfl (hEy33 x36)
                  · refine J_if_eq 177 dX9_findBest_164 (by decide) ?_ ?_
                    · refine J_aload_n 0 0 113 dX9_findBest_177 rfl rfl ?_
                      refine J_getI 113 9 35 dX9_findBest_178 fl_9_305 rfl rfl (Nat.lt_of_lt_of_le (Nat.le_of_ble_eq_true rfl) hn) ?_
                      exact J_lv [0, 1, 2, 3, 4, 5] rfl (hEy27 (m26 113 35))
                    · refine J_aload_n 0 0 113 dX9_findBest_167 rfl rfl ?_
                      refine J_sipush 384 dX9_findBest_168 (by decide) ?_
                      refine J_callVP 113 9 1 [.int 384] dX9_findBest_171 mv_X9_allOf mv_X9_allOfv lk_9_202 (ct_X9_allOf F hn P D T m26 384) rfl rfl (by decide) rfl (Nat.lt_of_lt_of_le (Nat.le_of_ble_eq_true rfl) hn) ⟨by decide, by decide⟩ (Nat.le_of_ble_eq_true rfl) (fun x28 => ?_)
                      refine J_goto 181 dX9_findBest_174 (by decide) ?_
                      exact J_lv [0, 1, 2, 3, 4, 5] rfl (hEy27 x28)
                · refine J_if_eq 154 dX9_findBest_146 (by decide) ?_ ?_
                  · refine J_aload_n 0 1 113 dX9_findBest_154 rfl rfl ?_
                    refine J_getI 113 9 34 dX9_findBest_155 fl_9_293 rfl rfl (Nat.lt_of_lt_of_le (Nat.le_of_ble_eq_true rfl) hn) ?_
                    exact J_lv [1, 2, 3, 4, 5, 0] rfl (hEy25 (m17 113 34))
                  · refine J_iload 6 6 x20 dX9_findBest_149 rfl ?_
                    refine J_goto 158 dX9_findBest_151 (by decide) ?_
                    exact J_lv [1, 2, 3, 4, 5, 0] rfl (hEy25 x20)
              · refine J_icmp_gt 136 dX9_findBest_110 (by decide) ?_ ?_
                · refine J_iconst 1 dX9_findBest_136 (by decide) ?_
                  refine J_goto 141 dX9_findBest_137 (by decide) ?_
                  exact J_lv [1, 2, 3, 4, 5, 0] rfl (hEy22 1)
                · refine J_iload 6 0 x20 dX9_findBest_113 rfl ?_
                  refine J_aload_n 0 1 113 dX9_findBest_115 rfl rfl ?_
                  refine J_getI 113 9 34 dX9_findBest_116 fl_9_293 rfl rfl (Nat.lt_of_lt_of_le (Nat.le_of_ble_eq_true rfl) hn) ?_
                  refine J_icmp_ne 140 dX9_findBest_119 (by decide) ?_ ?_
                  · refine J_iconst 0 dX9_findBest_140 (by decide) ?_
                    exact J_lv [1, 2, 3, 4, 5, 0] rfl (hEy22 0)
                  · refine J_aload_n 0 1 113 dX9_findBest_122 rfl rfl ?_
                    refine J_sipush 384 dX9_findBest_123 (by decide) ?_
                    refine J_callVP 113 9 1 [.int 384] dX9_findBest_126 mv_X9_allOf mv_X9_allOfv lk_9_202 (ct_X9_allOf F hn P D T m17 384) rfl rfl (by decide) rfl (Nat.lt_of_lt_of_le (Nat.le_of_ble_eq_true rfl) hn) ⟨by decide, by decide⟩ (Nat.le_of_ble_eq_true rfl) (fun x23 => ?_)
                    refine J_aload_n 0 1 113 dX9_findBest_129 rfl rfl ?_
                    refine J_getI 113 9 35 dX9_findBest_130 fl_9_305 rfl rfl (Nat.lt_of_lt_of_le (Nat.le_of_ble_eq_true rfl) hn) ?_
                    refine J_icmp_ge 140 dX9_findBest_133 (by decide) ?_ ?_
                    · refine J_iconst 0 dX9_findBest_140 (by decide) ?_
                      exact J_lv [1, 2, 3, 4, 5, 0] rfl (hEy22 0)
                    · refine J_iconst 1 dX9_findBest_136 (by decide) ?_
                      refine J_goto 141 dX9_findBest_137 (by decide) ?_
                      exact J_lv [1, 2, 3, 4, 5, 0] rfl (hEy22 1)
        · unfold b_X9_findBest_47
          refine J_iload 6 6 t8.2.1 dX9_findBest_47 rfl ?_
          refine J_if_lt 81 dX9_findBest_49 (by decide) ?_ ?_
          · exact J_lv [0, 1, 2, 3, 4] rfl (hXt8 t8.2.2)
          · refine J_aload_n 0 0 113 dX9_findBest_52 rfl rfl ?_
            refine J_getR 113 9 32 129 dX9_findBest_53 fl_9_56 rfl rfl (Nat.lt_of_lt_of_le (Nat.le_of_ble_eq_true rfl) hn) rfl ?_
            refine J_iload 6 6 t8.2.1 dX9_findBest_56 rfl ?_
            refine J_iload 5 5 t8.1 dX9_findBest_58 rfl ?_
            refine J_aload_n 0 0 113 dX9_findBest_60 rfl rfl ?_
            refine J_getI 113 9 30 dX9_findBest_61 fl_9_289 rfl rfl (Nat.lt_of_lt_of_le (Nat.le_of_ble_eq_true rfl) hn) ?_
            refine J_irem dX9_findBest_64 (fun x10 => ?_)
            refine J_iast 129 3 dX9_findBest_65 rfl (Nat.lt_of_lt_of_le (Nat.le_of_ble_eq_true rfl) hn) (fun m11 => ?_)
            refine J_iload 5 5 t8.1 dX9_findBest_66 rfl ?_
            refine J_aload_n 0 0 113 dX9_findBest_68 rfl rfl ?_
            refine J_getI 113 9 30 dX9_findBest_69 fl_9_289 rfl rfl (Nat.lt_of_lt_of_le (Nat.le_of_ble_eq_true rfl) hn) ?_
            refine J_idiv dX9_findBest_72 (fun x12 => ?_)
            refine J_istore 5 [(5, .int x12), (0, .ref 113), (1, .int a1), (2, .int a2), (3, .int e2), (4, .int t5.1), (6, .int t8.2.1)] dX9_findBest_73 (by decide) rfl ?_
            refine J_iinc 6 6 [(6, .int (t8.2.1 + (-1))), (5, .int x12), (0, .ref 113), (1, .int a1), (2, .int a2), (3, .int e2), (4, .int t5.1)] t8.2.1 (t8.2.1 + (-1)) dX9_findBest_75 rfl rfl (by decide) rfl ?_
            refine J_goto 47 dX9_findBest_78 (by decide) ?_
            exact J_lv [2, 3, 4, 5, 6, 1, 0] rfl (hBt8 (x12, t8.2.1 + (-1), m11))
  · unfold b_X9_findBest_5
    refine J_iload 4 4 t1.2 dX9_findBest_5 rfl ?_
    refine J_iload_n 1 1 a1 dX9_findBest_7 rfl rfl ?_
    refine J_icmp_ge 24 dX9_findBest_8 (by decide) ?_ ?_
    · exact J_lv [0, 1, 2, 3] rfl (hXt1 t1.1)
    · refine J_iload_n 3 3 t1.1 dX9_findBest_11 rfl rfl ?_
      refine J_aload_n 0 0 113 dX9_findBest_12 rfl rfl ?_
      refine J_getI 113 9 30 dX9_findBest_13 fl_9_289 rfl rfl (Nat.lt_of_lt_of_le (Nat.le_of_ble_eq_true rfl) hn) ?_
      refine J_imul dX9_findBest_16 ?_
      refine J_let (fun x3 => ?_)
      refine J_istore_n 3 [(3, .int x3), (0, .ref 113), (1, .int a1), (2, .int a2), (4, .int t1.2)] dX9_findBest_17 rfl (by decide) rfl ?_
      refine J_iinc 4 4 [(4, .int (t1.2 + 1)), (3, .int x3), (0, .ref 113), (1, .int a1), (2, .int a2)] t1.2 (t1.2 + 1) dX9_findBest_18 rfl rfl (by decide) rfl ?_
      refine J_goto 5 dX9_findBest_21 (by decide) ?_
      exact J_lv [2, 3, 4, 1, 0] rfl (hBt1 (x3, t1.2 + 1))
def b_X9_findChoices_7  (t2 : Int32 × Mm) : Option ((Int32 × Mm) ⊕ (Mm)) :=
  if (t2.2 113 4) ≤ t2.1 then (some (Sum.inr t2.2)) else ((ald t2.2 114 512 ((16 : Int32) + t2.1)).bind fun x4 => (if x4 = (1 : Int32) then ((ast t2.2 128 14 (t2.2 113 30) t2.1).bind fun m6 => letv (up2 m6 113 30 ((m6 113 30) + (1 : Int32))) fun m7 => some m7) else (some t2.2) : Option (Mm)).bind fun y5 => some (Sum.inl (t2.1 + 1, y5)))
def b_X9_findChoices_56  (t8 : Int32 × Mm) : Option ((Int32 × Mm) ⊕ (Mm)) :=
  if (t8.2 113 6) ≤ t8.1 then (some (Sum.inr t8.2)) else ((ald t8.2 114 512 ((36 : Int32) + t8.1)).bind fun x10 => (if x10 = 0 then ((ast t8.2 128 14 (t8.2 113 30) ((20 : Int32) + t8.1)).bind fun m12 => letv (up2 m12 113 30 ((m12 113 30) + (1 : Int32))) fun m13 => some m13) else (some t8.2) : Option (Mm)).bind fun y11 => some (Sum.inl (t8.1 + 1, y11)))
def f_X9_findChoices (F : Nat) (m : Mm) : Option (Mm) :=
  letv (up2 m 113 30 0) fun m1 => (iter F b_X9_findChoices_7 ((0, m1) : Int32 × Mm)).bind (fun e3 : Mm => (iter F b_X9_findChoices_56 ((0, e3) : Int32 × Mm)).bind (fun e9 : Mm => some e9))
set_option maxHeartbeats 4000000 in
set_option maxRecDepth 100000 in
theorem ct_X9_findChoices (F : Nat) {n : Nat} (hn : 135 ≤ n) (P D : Nat) (T : Option Nat) (m : Mm)  : Ct yX9_findChoices cX9_findChoices 2 none 0 0 [.ref 113] n n m (RF P D T) (rV (RF P D T) (f_X9_findChoices F m)) := by
  refine Ct.ofV (own := RX9) (nm := "findChoices") [(0, .ref 113)] (by decide) (Nat.le_of_ble_eq_true rfl) rfl rfl rfl ?_
  unfold f_X9_findChoices
  refine J_aload_n 0 0 113 dX9_findChoices_0 rfl rfl ?_
  refine J_iconst 0 dX9_findChoices_1 (by decide) ?_
  refine J_putI 113 9 30 dX9_findChoices_2 fl_9_289 rfl rfl (Nat.lt_of_lt_of_le (Nat.le_of_ble_eq_true rfl) hn) rfl rfl rfl (fun m1 => ?_)
  refine J_iconst 0 dX9_findChoices_5 (by decide) ?_
  refine J_istore_n 1 [(1, .int 0), (0, .ref 113)] dX9_findChoices_6 rfl (by decide) rfl ?_
  refine J_lv [1, 0] rfl ?_
  refine J_loop (pc := 7) (fun t2 : Int32 × Mm => [(0, .ref 113), (1, .int t2.1)]) (fun t2 => t2.2) (fun _ => 54) (fun e3 => [(0, .ref 113)]) (fun _ => []) (fun e3 => e3) ?_ (fun t2 k1 hBt2 hXt2 => ?_) F ((0, m1))
  · refine fun e3 => ?_
    refine J_iconst 0 dX9_findChoices_54 (by decide) ?_
    refine J_istore_n 1 [(1, .int 0), (0, .ref 113)] dX9_findChoices_55 rfl (by decide) rfl ?_
    refine J_lv [1, 0] rfl ?_
    refine J_loop (pc := 56) (fun t8 : Int32 × Mm => [(0, .ref 113), (1, .int t8.1)]) (fun t8 => t8.2) (fun _ => 105) (fun e9 => []) (fun _ => []) (fun e9 => e9) ?_ (fun t8 k1 hBt8 hXt8 => ?_) F ((0, e3))
    · refine fun e9 => ?_
      exact J_vretV dX9_findChoices_105 rfl rfl
    · unfold b_X9_findChoices_56
      refine J_iload_n 1 1 t8.1 dX9_findChoices_56 rfl rfl ?_
      refine J_aload_n 0 0 113 dX9_findChoices_57 rfl rfl ?_
      refine J_getI 113 9 6 dX9_findChoices_58 fl_9_99 rfl rfl (Nat.lt_of_lt_of_le (Nat.le_of_ble_eq_true rfl) hn) ?_
      refine J_icmp_ge 105 dX9_findChoices_61 (by decide) ?_ ?_
      · exact J_lv [] rfl (hXt8 t8.2)
      · refine J_aload_n 0 0 113 dX9_findChoices_64 rfl rfl ?_
        refine J_getR 113 9 0 114 dX9_findChoices_65 fl_9_7 rfl rfl (Nat.lt_of_lt_of_le (Nat.le_of_ble_eq_true rfl) hn) rfl ?_
        refine J_bipush 36 dX9_findChoices_68 (by decide) ?_
        refine J_iload_n 1 1 t8.1 dX9_findChoices_70 rfl rfl ?_
        refine J_iadd dX9_findChoices_71 ?_
        refine J_iald 114 512 dX9_findChoices_72 rfl (Nat.lt_of_lt_of_le (Nat.le_of_ble_eq_true rfl) hn) (fun x10 => ?_)
        refine J_seqJ 99 (fun y11 : Mm => [(0, .ref 113), (1, .int t8.1)]) (fun y11 => []) (fun y11 => y11) (fun y11 => ?_) (fun k1 hEy11 => ?_)
        · refine J_iinc 1 1 [(1, .int (t8.1 + 1)), (0, .ref 113)] t8.1 (t8.1 + 1) dX9_findChoices_99 rfl rfl (by decide) rfl ?_
          refine J_goto 56 dX9_findChoices_102 (by decide) ?_
          exact J_lv [1, 0] rfl (hBt8 (t8.1 + 1, y11))
        · refine J_if_ne 99 dX9_findChoices_73 (by decide) ?_ ?_
          · exact J_lv [0, 1] rfl (hEy11 t8.2)
          · refine J_aload_n 0 0 113 dX9_findChoices_76 rfl rfl ?_
            refine J_getR 113 9 31 128 dX9_findChoices_77 fl_9_53 rfl rfl (Nat.lt_of_lt_of_le (Nat.le_of_ble_eq_true rfl) hn) rfl ?_
            refine J_aload_n 0 0 113 dX9_findChoices_80 rfl rfl ?_
            refine J_getI 113 9 30 dX9_findChoices_81 fl_9_289 rfl rfl (Nat.lt_of_lt_of_le (Nat.le_of_ble_eq_true rfl) hn) ?_
            refine J_bipush 20 dX9_findChoices_84 (by decide) ?_
            refine J_iload_n 1 1 t8.1 dX9_findChoices_86 rfl rfl ?_
            refine J_iadd dX9_findChoices_87 ?_
            refine J_iast 128 14 dX9_findChoices_88 rfl (Nat.lt_of_lt_of_le (Nat.le_of_ble_eq_true rfl) hn) (fun m12 => ?_)
            refine J_aload_n 0 0 113 dX9_findChoices_89 rfl rfl ?_
            refine J_dup dX9_findChoices_90 rfl ?_
            refine J_getI 113 9 30 dX9_findChoices_91 fl_9_289 rfl rfl (Nat.lt_of_lt_of_le (Nat.le_of_ble_eq_true rfl) hn) ?_
            refine J_iconst 1 dX9_findChoices_94 (by decide) ?_
            refine J_iadd dX9_findChoices_95 ?_
            refine J_putI 113 9 30 dX9_findChoices_96 fl_9_289 rfl rfl (Nat.lt_of_lt_of_le (Nat.le_of_ble_eq_true rfl) hn) rfl rfl rfl (fun m13 => ?_)
            exact J_lv [0, 1] rfl (hEy11 m13)
  · unfold b_X9_findChoices_7
    refine J_iload_n 1 1 t2.1 dX9_findChoices_7 rfl rfl ?_
    refine J_aload_n 0 0 113 dX9_findChoices_8 rfl rfl ?_
    refine J_getI 113 9 4 dX9_findChoices_9 fl_9_96 rfl rfl (Nat.lt_of_lt_of_le (Nat.le_of_ble_eq_true rfl) hn) ?_
    refine J_icmp_ge 54 dX9_findChoices_12 (by decide) ?_ ?_
    · exact J_lv [0] rfl (hXt2 t2.2)
    · refine J_aload_n 0 0 113 dX9_findChoices_15 rfl rfl ?_
      refine J_getR 113 9 0 114 dX9_findChoices_16 fl_9_7 rfl rfl (Nat.lt_of_lt_of_le (Nat.le_of_ble_eq_true rfl) hn) rfl ?_
      refine J_bipush 16 dX9_findChoices_19 (by decide) ?_
      refine J_iload_n 1 1 t2.1 dX9_findChoices_21 rfl rfl ?_
      refine J_iadd dX9_findChoices_22 ?_
      refine J_iald 114 512 dX9_findChoices_23 rfl (Nat.lt_of_lt_of_le (Nat.le_of_ble_eq_true rfl) hn) (fun x4 => ?_)
      refine J_iconst 1 dX9_findChoices_24 (by decide) ?_
      refine J_seqJ 48 (fun y5 : Mm => [(0, .ref 113), (1, .int t2.1)]) (fun y5 => []) (fun y5 => y5) (fun y5 => ?_) (fun k1 hEy5 => ?_)
      · refine J_iinc 1 1 [(1, .int (t2.1 + 1)), (0, .ref 113)] t2.1 (t2.1 + 1) dX9_findChoices_48 rfl rfl (by decide) rfl ?_
        refine J_goto 7 dX9_findChoices_51 (by decide) ?_
        exact J_lv [1, 0] rfl (hBt2 (t2.1 + 1, y5))
      · refine J_icmp_ne 48 dX9_findChoices_25 (by decide) ?_ ?_
        · exact J_lv [0, 1] rfl (hEy5 t2.2)
        · refine J_aload_n 0 0 113 dX9_findChoices_28 rfl rfl ?_
          refine J_getR 113 9 31 128 dX9_findChoices_29 fl_9_53 rfl rfl (Nat.lt_of_lt_of_le (Nat.le_of_ble_eq_true rfl) hn) rfl ?_
          refine J_aload_n 0 0 113 dX9_findChoices_32 rfl rfl ?_
          refine J_getI 113 9 30 dX9_findChoices_33 fl_9_289 rfl rfl (Nat.lt_of_lt_of_le (Nat.le_of_ble_eq_true rfl) hn) ?_
          refine J_iload_n 1 1 t2.1 dX9_findChoices_36 rfl rfl ?_
          refine J_iast 128 14 dX9_findChoices_37 rfl (Nat.lt_of_lt_of_le (Nat.le_of_ble_eq_true rfl) hn) (fun m6 => ?_)
          refine J_aload_n 0 0 113 dX9_findChoices_38 rfl rfl ?_
          refine J_dup dX9_findChoices_39 rfl ?_
          refine J_getI 113 9 30 dX9_findChoices_40 fl_9_289 rfl rfl (Nat.lt_of_lt_of_le (Nat.le_of_ble_eq_true rfl) hn) ?_
          refine J_iconst 1 dX9_findChoices_43 (by decide) ?_
          refine J_iadd dX9_findChoices_44 ?_
          refine J_putI 113 9 30 dX9_findChoices_45 fl_9_289 rfl rfl (Nat.lt_of_lt_of_le (Nat.le_of_ble_eq_true rfl) hn) rfl rfl rfl (fun m7 => ?_)
          exact J_lv [0, 1] rfl (hEy5 m7)
def f_X9_best (F : Nat) (m : Mm) (a1 : Int32) (a2 : Int32) (a3 : Int32) : Option (Int32 × Mm) :=
  (f_X9_in a1.toInt64 0 3).bind fun x1 => if x1 = 0 then (some ((-1), m)) else ((f_X9_in a2.toInt64 1 60).bind fun x3 => if x3 = 0 then (some ((-1), m)) else ((f_X9_in a3.toInt64 0 1).bind fun x5 => letv (fun y7 : Unit => (f_X9_findChoices F m).bind fun m12 => if a1 ≤ (m12 113 30) then ((f_X9_findBest F m12 a1 a2).bind fun m14 => if a3 = 0 then (if (m14 113 34) = (100000 : Int32) then (some ((-4), m14)) else (some (m14 113 34, m14))) else (if a3 = (1 : Int32) then (some (m14 113 35, m14)) else ((ald m14 130 3 (a3 - (10 : Int32))).bind fun x15 => some (x15, m14)))) else (some ((-2), m12))) fun j8 => if x5 = 0 then ((f_X9_in a3.toInt64 10 (((9 : Int32) + a1).toInt64)).bind fun x9 => if x9 = 0 then (some ((-1), m)) else (j8 ())) else (j8 ())))
set_option maxHeartbeats 4000000 in
set_option maxRecDepth 100000 in
theorem ct_X9_best (F : Nat) {n : Nat} (hn : 135 ≤ n) (P D : Nat) (T : Option Nat) (m : Mm) (a1 : Int32) (a2 : Int32) (a3 : Int32) : Ct yX9_best cX9_best 4 (some .int) 7 160 [.ref 113, .int a1, .int a2, .int a3] n n m (RF P D T) (rI (RF P D T) (f_X9_best F m a1 a2 a3)) := by
  refine Ct.ofI (own := RX9) (nm := "best") [(0, .ref 113), (1, .int a1), (2, .int a2), (3, .int a3)] (by decide) (Nat.le_of_ble_eq_true rfl) rfl rfl rfl ?_
  unfold f_X9_best
  refine J_iload_n 1 1 a1 dX9_best_0 rfl rfl ?_
  refine J_i2l dX9_best_1 ?_
  refine J_lconst 0 dX9_best_2 (by decide) ?_
  refine J_ldc2 3 dX9_best_3 kl_9_308 ?_
  refine J_callSP 3 [.long a1.toInt64, .long 0, .long 3] dX9_best_6 mv_X9_in mv_X9_ins lk_9_114 (ct_X9_in F hn P D T m a1.toInt64 0 3) rfl ⟨by decide, by decide⟩ (Nat.le_of_ble_eq_true rfl) (fun x1 => ?_)
  refine J_if_eq 50 dX9_best_9 (by decide) ?_ ?_
  · refine J_iconst (-1) dX9_best_50 (by decide) ?_
    exact J_iretI dX9_best_51 rfl rfl
  · refine J_iload_n 2 2 a2 dX9_best_12 rfl rfl ?_
    refine J_i2l dX9_best_13 ?_
    refine J_lconst 1 dX9_best_14 (by decide) ?_
    refine J_ldc2 60 dX9_best_15 kl_9_310 ?_
    refine J_callSP 3 [.long a2.toInt64, .long 1, .long 60] dX9_best_18 mv_X9_in mv_X9_ins lk_9_114 (ct_X9_in F hn P D T m a2.toInt64 1 60) rfl ⟨by decide, by decide⟩ (Nat.le_of_ble_eq_true rfl) (fun x3 => ?_)
    refine J_if_eq 50 dX9_best_21 (by decide) ?_ ?_
    · refine J_iconst (-1) dX9_best_50 (by decide) ?_
      exact J_iretI dX9_best_51 rfl rfl
    · refine J_iload_n 3 3 a3 dX9_best_24 rfl rfl ?_
      refine J_i2l dX9_best_25 ?_
      refine J_lconst 0 dX9_best_26 (by decide) ?_
      refine J_lconst 1 dX9_best_27 (by decide) ?_
      refine J_callSP 3 [.long a3.toInt64, .long 0, .long 1] dX9_best_28 mv_X9_in mv_X9_ins lk_9_114 (ct_X9_in F hn P D T m a3.toInt64 0 1) rfl ⟨by decide, by decide⟩ (Nat.le_of_ble_eq_true rfl) (fun x5 => ?_)
      refine J_letJ 52 (fun y7 : Unit => [(0, .ref 113), (1, .int a1), (2, .int a2), (3, .int a3)]) (fun y7 => []) (fun y7 => m) (fun y7 => ?_) (fun j8 hEj8 => ?_)
      · refine J_aload_n 0 0 113 dX9_best_52 rfl rfl ?_
        refine J_callVV 113 9 0 [] dX9_best_53 mv_X9_findChoices mv_X9_findChoicesv lk_9_312 (ct_X9_findChoices F hn P D T m) rfl rfl (by decide) rfl (Nat.lt_of_lt_of_le (Nat.le_of_ble_eq_true rfl) hn) ⟨by decide, by decide⟩ (Nat.le_of_ble_eq_true rfl) (fun m12 => ?_)
        refine J_aload_n 0 0 113 dX9_best_56 rfl rfl ?_
        refine J_getI 113 9 30 dX9_best_57 fl_9_289 rfl rfl (Nat.lt_of_lt_of_le (Nat.le_of_ble_eq_true rfl) hn) ?_
        refine J_iload_n 1 1 a1 dX9_best_60 rfl rfl ?_
        refine J_icmp_ge 67 dX9_best_61 (by decide) ?_ ?_
        · refine J_aload_n 0 0 113 dX9_best_67 rfl rfl ?_
          refine J_iload_n 1 1 a1 dX9_best_68 rfl rfl ?_
          refine J_iload_n 2 2 a2 dX9_best_69 rfl rfl ?_
          refine J_callVV 113 9 2 [.int a1, .int a2] dX9_best_70 mv_X9_findBest mv_X9_findBestv lk_9_315 (ct_X9_findBest F hn P D T m12 a1 a2) rfl rfl (by decide) rfl (Nat.lt_of_lt_of_le (Nat.le_of_ble_eq_true rfl) hn) ⟨by decide, by decide⟩ (Nat.le_of_ble_eq_true rfl) (fun m14 => ?_)
          refine J_iload_n 3 3 a3 dX9_best_73 rfl rfl ?_
          refine J_if_ne 99 dX9_best_74 (by decide) ?_ ?_
          · refine J_iload_n 3 3 a3 dX9_best_99 rfl rfl ?_
            refine J_iconst 1 dX9_best_100 (by decide) ?_
            refine J_icmp_ne 111 dX9_best_101 (by decide) ?_ ?_
            · refine J_aload_n 0 0 113 dX9_best_111 rfl rfl ?_
              refine J_getR 113 9 33 130 dX9_best_112 fl_9_59 rfl rfl (Nat.lt_of_lt_of_le (Nat.le_of_ble_eq_true rfl) hn) rfl ?_
              refine J_iload_n 3 3 a3 dX9_best_115 rfl rfl ?_
              refine J_bipush 10 dX9_best_116 (by decide) ?_
              refine J_isub dX9_best_118 ?_
              refine J_iald 130 3 dX9_best_119 rfl (Nat.lt_of_lt_of_le (Nat.le_of_ble_eq_true rfl) hn) (fun x15 => ?_)
              exact J_iretI dX9_best_120 rfl rfl
            · refine J_aload_n 0 0 113 dX9_best_104 rfl rfl ?_
              refine J_getI 113 9 35 dX9_best_105 fl_9_305 rfl rfl (Nat.lt_of_lt_of_le (Nat.le_of_ble_eq_true rfl) hn) ?_
              refine J_goto 120 dX9_best_108 (by decide) ?_
              exact J_iretI dX9_best_120 rfl rfl
          · refine J_aload_n 0 0 113 dX9_best_77 rfl rfl ?_
            refine J_getI 113 9 34 dX9_best_78 fl_9_293 rfl rfl (Nat.lt_of_lt_of_le (Nat.le_of_ble_eq_true rfl) hn) ?_
            refine J_ldcw 100000 dX9_best_81 kc_9_292 ?_
            refine J_icmp_ne 92 dX9_best_84 (by decide) ?_ ?_
            · refine J_aload_n 0 0 113 dX9_best_92 rfl rfl ?_
              refine J_getI 113 9 34 dX9_best_93 fl_9_293 rfl rfl (Nat.lt_of_lt_of_le (Nat.le_of_ble_eq_true rfl) hn) ?_
              refine J_goto 120 dX9_best_96 (by decide) ?_
              exact J_iretI dX9_best_120 rfl rfl
            · refine J_bipush (-4) dX9_best_87 (by decide) ?_
              refine J_goto 120 dX9_best_89 (by decide) ?_
              exact J_iretI dX9_best_120 rfl rfl
        · refine J_bipush (-2) dX9_best_64 (by decide) ?_
          exact J_iretI dX9_best_66 rfl rfl
      · refine J_if_ne 52 dX9_best_31 (by decide) ?_ ?_
        · exact J_lv [0, 1, 2, 3] rfl (hEj8 ())
        · refine J_iload_n 3 3 a3 dX9_best_34 rfl rfl ?_
          refine J_i2l dX9_best_35 ?_
          refine J_ldc2 10 dX9_best_36 kl_9_180 ?_
          refine J_bipush 9 dX9_best_39 (by decide) ?_
          refine J_iload_n 1 1 a1 dX9_best_41 rfl rfl ?_
          refine J_iadd dX9_best_42 ?_
          refine J_i2l dX9_best_43 ?_
          refine J_callSP 3 [.long a3.toInt64, .long 10, .long (((9 : Int32) + a1).toInt64)] dX9_best_44 mv_X9_in mv_X9_ins lk_9_114 (ct_X9_in F hn P D T m a3.toInt64 10 (((9 : Int32) + a1).toInt64)) rfl ⟨by decide, by decide⟩ (Nat.le_of_ble_eq_true rfl) (fun x9 => ?_)
          refine J_if_ne 52 dX9_best_47 (by decide) ?_ ?_
          · exact J_lv [0, 1, 2, 3] rfl (hEj8 ())
          · refine J_iconst (-1) dX9_best_50 (by decide) ?_
            exact J_iretI dX9_best_51 rfl rfl
def f_X9_canShut (m : Mm) (a1 : Int32) : Option (Int32) :=
  (ald m 114 512 ((16 : Int32) + a1)).bind fun x1 => if x1 = (1 : Int32) then ((ald m 114 512 ((26 : Int32) + a1)).bind fun x2 => if x2 = 0 then (some 1) else (some 0)) else (some 0)
set_option maxHeartbeats 4000000 in
set_option maxRecDepth 100000 in
theorem ct_X9_canShut (F : Nat) {n : Nat} (hn : 135 ≤ n) (P D : Nat) (T : Option Nat) (m : Mm) (a1 : Int32) : Ct yX9_canShut cX9_canShut 2 (some .boolean) 0 0 [.ref 113, .int a1] n n m (RF P D T) (rP m (RF P D T) (f_X9_canShut m a1)) := by
  refine Ct.ofP (own := RX9) (nm := "canShut") [(0, .ref 113), (1, .int a1)] (by decide) (Nat.le_of_ble_eq_true rfl) rfl rfl rfl ?_
  unfold f_X9_canShut
  refine J_aload_n 0 0 113 dX9_canShut_0 rfl rfl ?_
  refine J_getR 113 9 0 114 dX9_canShut_1 fl_9_7 rfl rfl (Nat.lt_of_lt_of_le (Nat.le_of_ble_eq_true rfl) hn) rfl ?_
  refine J_bipush 16 dX9_canShut_4 (by decide) ?_
  refine J_iload_n 1 1 a1 dX9_canShut_6 rfl rfl ?_
  refine J_iadd dX9_canShut_7 ?_
  refine J_iald 114 512 dX9_canShut_8 rfl (Nat.lt_of_lt_of_le (Nat.le_of_ble_eq_true rfl) hn) (fun x1 => ?_)
  refine J_iconst 1 dX9_canShut_9 (by decide) ?_
  refine J_icmp_ne 29 dX9_canShut_10 (by decide) ?_ ?_
  · refine J_iconst 0 dX9_canShut_29 (by decide) ?_
    exact J_zretP dX9_canShut_30 rfl rfl rfl
  · refine J_aload_n 0 0 113 dX9_canShut_13 rfl rfl ?_
    refine J_getR 113 9 0 114 dX9_canShut_14 fl_9_7 rfl rfl (Nat.lt_of_lt_of_le (Nat.le_of_ble_eq_true rfl) hn) rfl ?_
    refine J_bipush 26 dX9_canShut_17 (by decide) ?_
    refine J_iload_n 1 1 a1 dX9_canShut_19 rfl rfl ?_
    refine J_iadd dX9_canShut_20 ?_
    refine J_iald 114 512 dX9_canShut_21 rfl (Nat.lt_of_lt_of_le (Nat.le_of_ble_eq_true rfl) hn) (fun x2 => ?_)
    refine J_if_ne 29 dX9_canShut_22 (by decide) ?_ ?_
    · refine J_iconst 0 dX9_canShut_29 (by decide) ?_
      exact J_zretP dX9_canShut_30 rfl rfl rfl
    · refine J_iconst 1 dX9_canShut_25 (by decide) ?_
      refine J_goto 30 dX9_canShut_26 (by decide) ?_
      exact J_zretP dX9_canShut_30 rfl rfl rfl
def f_X9_count (m : Mm) (a1 : Int32) : Option (Int32) :=
  if a1 = 0 then (some (m 113 2)) else (if a1 = 1 then (some (m 113 4)) else (if a1 = 2 then (some (m 113 6)) else (if a1 = 3 then (some (m 113 8)) else (if a1 = 4 then ((ald m 114 512 76).bind fun x1 => some x1) else (if a1 = 5 then ((ald m 115 2 0).bind fun x2 => (f_X9_flag x2).bind fun x3 => (ald m 115 2 1).bind fun x5 => (f_X9_flag x5).bind fun x6 => some (x3 + x6)) else (if a1 = 6 then (some (m 113 36)) else (if a1 = 7 then (some (m 113 22)) else (if a1 = 8 then ((ald m 132 4 0).bind fun x8 => if x8 = ((-4) : Int32) then (some (-4)) else ((ald m 133 4 0).bind fun x9 => some x9)) else (some (-1))))))))))
set_option maxHeartbeats 4000000 in
set_option maxRecDepth 100000 in
theorem ct_X9_count (F : Nat) {n : Nat} (hn : 135 ≤ n) (P D : Nat) (T : Option Nat) (m : Mm) (a1 : Int32) : Ct yX9_count cX9_count 2 (some .int) 1 20 [.ref 113, .int a1] n n m (RF P D T) (rP m (RF P D T) (f_X9_count m a1)) := by
  refine Ct.ofP (own := RX9) (nm := "count") [(0, .ref 113), (1, .int a1)] (by decide) (Nat.le_of_ble_eq_true rfl) rfl rfl rfl ?_
  unfold f_X9_count
  refine J_iload_n 1 1 a1 dX9_count_0 rfl rfl ?_
  refine J_split (c1 := 0) (fun hs1_0 => ?_) (fun hs1_0 => ?_)
  · refine J_tsIn 52 hs1_0 dX9_count_1 (by decide) (by decide) rfl (by decide) ?_
    refine J_aload_n 0 0 113 dX9_count_52 rfl rfl ?_
    refine J_getI 113 9 2 dX9_count_53 fl_9_93 rfl rfl (Nat.lt_of_lt_of_le (Nat.le_of_ble_eq_true rfl) hn) ?_
    exact J_iretP dX9_count_56 rfl rfl
  · refine J_split (c1 := 1) (fun hs1_1 => ?_) (fun hs1_1 => ?_)
    · refine J_tsIn 57 hs1_1 dX9_count_1 (by decide) (by decide) rfl (by decide) ?_
      refine J_aload_n 0 0 113 dX9_count_57 rfl rfl ?_
      refine J_getI 113 9 4 dX9_count_58 fl_9_96 rfl rfl (Nat.lt_of_lt_of_le (Nat.le_of_ble_eq_true rfl) hn) ?_
      exact J_iretP dX9_count_61 rfl rfl
    · refine J_split (c1 := 2) (fun hs1_2 => ?_) (fun hs1_2 => ?_)
      · refine J_tsIn 62 hs1_2 dX9_count_1 (by decide) (by decide) rfl (by decide) ?_
        refine J_aload_n 0 0 113 dX9_count_62 rfl rfl ?_
        refine J_getI 113 9 6 dX9_count_63 fl_9_99 rfl rfl (Nat.lt_of_lt_of_le (Nat.le_of_ble_eq_true rfl) hn) ?_
        exact J_iretP dX9_count_66 rfl rfl
      · refine J_split (c1 := 3) (fun hs1_3 => ?_) (fun hs1_3 => ?_)
        · refine J_tsIn 67 hs1_3 dX9_count_1 (by decide) (by decide) rfl (by decide) ?_
          refine J_aload_n 0 0 113 dX9_count_67 rfl rfl ?_
          refine J_getI 113 9 8 dX9_count_68 fl_9_102 rfl rfl (Nat.lt_of_lt_of_le (Nat.le_of_ble_eq_true rfl) hn) ?_
          exact J_iretP dX9_count_71 rfl rfl
        · refine J_split (c1 := 4) (fun hs1_4 => ?_) (fun hs1_4 => ?_)
          · refine J_tsIn 72 hs1_4 dX9_count_1 (by decide) (by decide) rfl (by decide) ?_
            refine J_aload_n 0 0 113 dX9_count_72 rfl rfl ?_
            refine J_getR 113 9 0 114 dX9_count_73 fl_9_7 rfl rfl (Nat.lt_of_lt_of_le (Nat.le_of_ble_eq_true rfl) hn) rfl ?_
            refine J_bipush 76 dX9_count_76 (by decide) ?_
            refine J_iald 114 512 dX9_count_78 rfl (Nat.lt_of_lt_of_le (Nat.le_of_ble_eq_true rfl) hn) (fun x1 => ?_)
            exact J_iretP dX9_count_79 rfl rfl
          · refine J_split (c1 := 5) (fun hs1_5 => ?_) (fun hs1_5 => ?_)
            · refine J_tsIn 80 hs1_5 dX9_count_1 (by decide) (by decide) rfl (by decide) ?_
              refine J_aload_n 0 0 113 dX9_count_80 rfl rfl ?_
              refine J_getR 113 9 1 115 dX9_count_81 fl_9_13 rfl rfl (Nat.lt_of_lt_of_le (Nat.le_of_ble_eq_true rfl) hn) rfl ?_
              refine J_iconst 0 dX9_count_84 (by decide) ?_
              refine J_zald 115 2 dX9_count_85 rfl (Nat.lt_of_lt_of_le (Nat.le_of_ble_eq_true rfl) hn) (fun x2 => ?_)
              refine J_callSP 1 [.int x2] dX9_count_86 mv_X9_flag mv_X9_flags lk_9_174 (ct_X9_flag F hn P D T m x2) rfl ⟨by decide, by decide⟩ (Nat.le_of_ble_eq_true rfl) (fun x3 => ?_)
              refine J_aload_n 0 0 113 dX9_count_89 rfl rfl ?_
              refine J_getR 113 9 1 115 dX9_count_90 fl_9_13 rfl rfl (Nat.lt_of_lt_of_le (Nat.le_of_ble_eq_true rfl) hn) rfl ?_
              refine J_iconst 1 dX9_count_93 (by decide) ?_
              refine J_zald 115 2 dX9_count_94 rfl (Nat.lt_of_lt_of_le (Nat.le_of_ble_eq_true rfl) hn) (fun x5 => ?_)
              refine J_callSP 1 [.int x5] dX9_count_95 mv_X9_flag mv_X9_flags lk_9_174 (ct_X9_flag F hn P D T m x5) rfl ⟨by decide, by decide⟩ (Nat.le_of_ble_eq_true rfl) (fun x6 => ?_)
              refine J_iadd dX9_count_98 ?_
              exact J_iretP dX9_count_99 rfl rfl
            · refine J_split (c1 := 6) (fun hs1_6 => ?_) (fun hs1_6 => ?_)
              · refine J_tsIn 100 hs1_6 dX9_count_1 (by decide) (by decide) rfl (by decide) ?_
                refine J_aload_n 0 0 113 dX9_count_100 rfl rfl ?_
                refine J_getI 113 9 36 dX9_count_101 fl_9_350 rfl rfl (Nat.lt_of_lt_of_le (Nat.le_of_ble_eq_true rfl) hn) ?_
                exact J_iretP dX9_count_104 rfl rfl
              · refine J_split (c1 := 7) (fun hs1_7 => ?_) (fun hs1_7 => ?_)
                · refine J_tsIn 105 hs1_7 dX9_count_1 (by decide) (by decide) rfl (by decide) ?_
                  refine J_aload_n 0 0 113 dX9_count_105 rfl rfl ?_
                  refine J_getI 113 9 22 dX9_count_106 fl_9_109 rfl rfl (Nat.lt_of_lt_of_le (Nat.le_of_ble_eq_true rfl) hn) ?_
                  exact J_iretP dX9_count_109 rfl rfl
                · refine J_split (c1 := 8) (fun hs1_8 => ?_) (fun hs1_8 => ?_)
                  · refine J_tsIn 110 hs1_8 dX9_count_1 (by decide) (by decide) rfl (by decide) ?_
                    refine J_aload_n 0 0 113 dX9_count_110 rfl rfl ?_
                    refine J_getR 113 9 38 132 dX9_count_111 fl_9_65 rfl rfl (Nat.lt_of_lt_of_le (Nat.le_of_ble_eq_true rfl) hn) rfl ?_
                    refine J_iconst 0 dX9_count_114 (by decide) ?_
                    refine J_iald 132 4 dX9_count_115 rfl (Nat.lt_of_lt_of_le (Nat.le_of_ble_eq_true rfl) hn) (fun x8 => ?_)
                    refine J_bipush (-4) dX9_count_116 (by decide) ?_
                    refine J_icmp_ne 126 dX9_count_118 (by decide) ?_ ?_
                    · refine J_aload_n 0 0 113 dX9_count_126 rfl rfl ?_
                      refine J_getR 113 9 39 133 dX9_count_127 fl_9_68 rfl rfl (Nat.lt_of_lt_of_le (Nat.le_of_ble_eq_true rfl) hn) rfl ?_
                      refine J_iconst 0 dX9_count_130 (by decide) ?_
                      refine J_iald 133 4 dX9_count_131 rfl (Nat.lt_of_lt_of_le (Nat.le_of_ble_eq_true rfl) hn) (fun x9 => ?_)
                      exact J_iretP dX9_count_132 rfl rfl
                    · refine J_bipush (-4) dX9_count_121 (by decide) ?_
                      refine J_goto 132 dX9_count_123 (by decide) ?_
                      exact J_iretP dX9_count_132 rfl rfl
                  · refine J_tsOut 133 dX9_count_1 (ts_out [0, 1, 2, 3, 4, 5, 6, 7, 8] (by decide) (by simp only [List.mem_cons, List.not_mem_nil, or_false, forall_eq_or_imp, forall_eq]; exact ⟨hs1_0, hs1_1, hs1_2, hs1_3, hs1_4, hs1_5, hs1_6, hs1_7, hs1_8⟩)) (by decide) ?_
                    refine J_iconst (-1) dX9_count_133 (by decide) ?_
                    exact J_iretP dX9_count_134 rfl rfl

theorem fl_2_121 : FL RX2 121 1 4 := ⟨by decide, by decide, tb 275 (by decide +kernel) rfl⟩
theorem fl_2_128 : FL RX2 128 1 5 := ⟨by decide, by decide, tb 279 (by decide +kernel) rfl⟩
theorem fl_2_131 : FL RX2 131 1 6 := ⟨by decide, by decide, tb 283 (by decide +kernel) rfl⟩
theorem fl_2_134 : FL RX2 134 1 7 := ⟨by decide, by decide, tb 286 (by decide +kernel) rfl⟩
theorem fl_2_140 : FL RX2 140 1 1 := ⟨by decide, by decide, tb 260 (by decide +kernel) rfl⟩
theorem fl_2_143 : FL RX2 143 1 8 := ⟨by decide, by decide, tb 289 (by decide +kernel) rfl⟩
theorem fl_2_146 : FL RX2 146 1 9 := ⟨by decide, by decide, tb 293 (by decide +kernel) rfl⟩
theorem fl_2_149 : FL RX2 149 1 10 := ⟨by decide, by decide, tb 297 (by decide +kernel) rfl⟩
theorem fl_2_152 : FL RX2 152 1 11 := ⟨by decide, by decide, tb 301 (by decide +kernel) rfl⟩
theorem fl_2_155 : FL RX2 155 1 12 := ⟨by decide, by decide, tb 305 (by decide +kernel) rfl⟩
theorem fl_2_160 : FL RX2 160 1 13 := ⟨by decide, by decide, tb 308 (by decide +kernel) rfl⟩
theorem fl_2_163 : FL RX2 163 1 2 := ⟨by decide, by decide, tb 265 (by decide +kernel) rfl⟩
theorem fl_2_166 : FL RX2 166 1 14 := ⟨by decide, by decide, tb 312 (by decide +kernel) rfl⟩
theorem fl_2_169 : FL RX2 169 1 15 := ⟨by decide, by decide, tb 316 (by decide +kernel) rfl⟩
theorem fl_2_172 : FL RX2 172 1 16 := ⟨by decide, by decide, tb 319 (by decide +kernel) rfl⟩
theorem fl_2_175 : FL RX2 175 1 3 := ⟨by decide, by decide, tb 268 (by decide +kernel) rfl⟩
theorem fl_2_178 : FL RX2 178 1 17 := ⟨by decide, by decide, tb 322 (by decide +kernel) rfl⟩
theorem fl_2_181 : FL RX2 181 1 18 := ⟨by decide, by decide, tb 326 (by decide +kernel) rfl⟩
theorem fl_2_184 : FL RX2 184 1 19 := ⟨by decide, by decide, tb 332 (by decide +kernel) rfl⟩
theorem fl_2_59 : FL RX2 59 1 0 := ⟨by decide, by decide, tb 254 (by decide +kernel) rfl⟩
theorem lk_2_125 : Cond.methodLink RX2 125 yX2_takeNumber ∈ TBg := tb 574 (by decide +kernel) rfl
theorem lk_2_137 : Cond.methodLink RX2 137 yX2_takeSign ∈ TBg := tb 578 (by decide +kernel) rfl
theorem mv_X2_takeNumber : MV yX2_takeNumber cX2_takeNumber 5 (some .int) 2 := ⟨tb 577 (by decide +kernel) rfl, tb 2 (by decide +kernel) rfl, by decide +kernel⟩
theorem mv_X2_takeNumberv : Cond.instanceMethod yX2_takeNumber ∈ TBg ∧ Cond.selects yX2_takeNumber.cls yX2_takeNumber yX2_takeNumber ∈ TBg := ⟨tb 576 (by decide +kernel) rfl, tbP (k := 10) 7 (by decide +kernel) rfl⟩
theorem mv_X2_takeSign : MV yX2_takeSign cX2_takeSign 1 none 0 := ⟨tb 581 (by decide +kernel) rfl, tb 2 (by decide +kernel) rfl, by decide +kernel⟩
theorem mv_X2_takeSignv : Cond.instanceMethod yX2_takeSign ∈ TBg ∧ Cond.selects yX2_takeSign.cls yX2_takeSign yX2_takeSign ∈ TBg := ⟨tb 580 (by decide +kernel) rfl, tbP (k := 10) 8 (by decide +kernel) rfl⟩
theorem dX2_takeDoor_0 : decode cX2_takeDoor 0 = .ok (.aload_n 0, 1) := by decide +kernel
theorem dX2_takeDoor_1 : decode cX2_takeDoor 1 = .ok (.getfield 23, 3) := by decide +kernel
theorem dX2_takeDoor_4 : decode cX2_takeDoor 4 = .ok (.getfield 140, 3) := by decide +kernel
theorem dX2_takeDoor_7 : decode cX2_takeDoor 7 = .ok (.istore_n 1, 1) := by decide +kernel
theorem dX2_takeDoor_8 : decode cX2_takeDoor 8 = .ok (.iload_n 1, 1) := by decide +kernel
theorem dX2_takeDoor_9 : decode cX2_takeDoor 9 = .ok (.bipush 10, 2) := by decide +kernel
theorem dX2_takeDoor_11 : decode cX2_takeDoor 11 = .ok (.if_icmp .lt 9, 3) := by decide +kernel
theorem dX2_takeDoor_14 : decode cX2_takeDoor 14 = .ok (.aload_n 0, 1) := by decide +kernel
theorem dX2_takeDoor_15 : decode cX2_takeDoor 15 = .ok (.iconst 5, 1) := by decide +kernel
theorem dX2_takeDoor_16 : decode cX2_takeDoor 16 = .ok (.invokevirtual 64, 3) := by decide +kernel
theorem dX2_takeDoor_19 : decode cX2_takeDoor 19 = .ok (.return_, 1) := by decide +kernel
theorem dX2_takeDoor_20 : decode cX2_takeDoor 20 = .ok (.aload_n 0, 1) := by decide +kernel
theorem dX2_takeDoor_21 : decode cX2_takeDoor 21 = .ok (.getfield 23, 3) := by decide +kernel
theorem dX2_takeDoor_24 : decode cX2_takeDoor 24 = .ok (.getfield 143, 3) := by decide +kernel
theorem dX2_takeDoor_27 : decode cX2_takeDoor 27 = .ok (.iload_n 1, 1) := by decide +kernel
theorem dX2_takeDoor_28 : decode cX2_takeDoor 28 = .ok (.aload_n 0, 1) := by decide +kernel
theorem dX2_takeDoor_29 : decode cX2_takeDoor 29 = .ok (.iconst 0, 1) := by decide +kernel
theorem dX2_takeDoor_30 : decode cX2_takeDoor 30 = .ok (.aload_n 0, 1) := by decide +kernel
theorem dX2_takeDoor_31 : decode cX2_takeDoor 31 = .ok (.getfield 23, 3) := by decide +kernel
theorem dX2_takeDoor_34 : decode cX2_takeDoor 34 = .ok (.getfield 59, 3) := by decide +kernel
theorem dX2_takeDoor_37 : decode cX2_takeDoor 37 = .ok (.iconst 1, 1) := by decide +kernel
theorem dX2_takeDoor_38 : decode cX2_takeDoor 38 = .ok (.isub, 1) := by decide +kernel
theorem dX2_takeDoor_39 : decode cX2_takeDoor 39 = .ok (.invokevirtual 125, 3) := by decide +kernel
theorem dX2_takeDoor_42 : decode cX2_takeDoor 42 = .ok (.iastore, 1) := by decide +kernel
theorem dX2_takeDoor_43 : decode cX2_takeDoor 43 = .ok (.aload_n 0, 1) := by decide +kernel
theorem dX2_takeDoor_44 : decode cX2_takeDoor 44 = .ok (.getfield 23, 3) := by decide +kernel
theorem dX2_takeDoor_47 : decode cX2_takeDoor 47 = .ok (.getfield 146, 3) := by decide +kernel
theorem dX2_takeDoor_50 : decode cX2_takeDoor 50 = .ok (.iload_n 1, 1) := by decide +kernel
theorem dX2_takeDoor_51 : decode cX2_takeDoor 51 = .ok (.aload_n 0, 1) := by decide +kernel
theorem dX2_takeDoor_52 : decode cX2_takeDoor 52 = .ok (.iconst 0, 1) := by decide +kernel
theorem dX2_takeDoor_53 : decode cX2_takeDoor 53 = .ok (.aload_n 0, 1) := by decide +kernel
theorem dX2_takeDoor_54 : decode cX2_takeDoor 54 = .ok (.getfield 23, 3) := by decide +kernel
theorem dX2_takeDoor_57 : decode cX2_takeDoor 57 = .ok (.getfield 59, 3) := by decide +kernel
theorem dX2_takeDoor_60 : decode cX2_takeDoor 60 = .ok (.iconst 1, 1) := by decide +kernel
theorem dX2_takeDoor_61 : decode cX2_takeDoor 61 = .ok (.isub, 1) := by decide +kernel
theorem dX2_takeDoor_62 : decode cX2_takeDoor 62 = .ok (.invokevirtual 125, 3) := by decide +kernel
theorem dX2_takeDoor_65 : decode cX2_takeDoor 65 = .ok (.iastore, 1) := by decide +kernel
theorem dX2_takeDoor_66 : decode cX2_takeDoor 66 = .ok (.aload_n 0, 1) := by decide +kernel
theorem dX2_takeDoor_67 : decode cX2_takeDoor 67 = .ok (.getfield 23, 3) := by decide +kernel
theorem dX2_takeDoor_70 : decode cX2_takeDoor 70 = .ok (.getfield 146, 3) := by decide +kernel
theorem dX2_takeDoor_73 : decode cX2_takeDoor 73 = .ok (.iload_n 1, 1) := by decide +kernel
theorem dX2_takeDoor_74 : decode cX2_takeDoor 74 = .ok (.iaload, 1) := by decide +kernel
theorem dX2_takeDoor_75 : decode cX2_takeDoor 75 = .ok (.aload_n 0, 1) := by decide +kernel
theorem dX2_takeDoor_76 : decode cX2_takeDoor 76 = .ok (.getfield 23, 3) := by decide +kernel
theorem dX2_takeDoor_79 : decode cX2_takeDoor 79 = .ok (.getfield 143, 3) := by decide +kernel
theorem dX2_takeDoor_82 : decode cX2_takeDoor 82 = .ok (.iload_n 1, 1) := by decide +kernel
theorem dX2_takeDoor_83 : decode cX2_takeDoor 83 = .ok (.iaload, 1) := by decide +kernel
theorem dX2_takeDoor_84 : decode cX2_takeDoor 84 = .ok (.if_icmp .ne 8, 3) := by decide +kernel
theorem dX2_takeDoor_87 : decode cX2_takeDoor 87 = .ok (.aload_n 0, 1) := by decide +kernel
theorem dX2_takeDoor_88 : decode cX2_takeDoor 88 = .ok (.iconst 3, 1) := by decide +kernel
theorem dX2_takeDoor_89 : decode cX2_takeDoor 89 = .ok (.invokevirtual 64, 3) := by decide +kernel
theorem dX2_takeDoor_92 : decode cX2_takeDoor 92 = .ok (.aload_n 0, 1) := by decide +kernel
theorem dX2_takeDoor_93 : decode cX2_takeDoor 93 = .ok (.getfield 23, 3) := by decide +kernel
theorem dX2_takeDoor_96 : decode cX2_takeDoor 96 = .ok (.getfield 149, 3) := by decide +kernel
theorem dX2_takeDoor_99 : decode cX2_takeDoor 99 = .ok (.iload_n 1, 1) := by decide +kernel
theorem dX2_takeDoor_100 : decode cX2_takeDoor 100 = .ok (.aload_n 0, 1) := by decide +kernel
theorem dX2_takeDoor_101 : decode cX2_takeDoor 101 = .ok (.iconst 0, 1) := by decide +kernel
theorem dX2_takeDoor_102 : decode cX2_takeDoor 102 = .ok (.bipush 12, 2) := by decide +kernel
theorem dX2_takeDoor_104 : decode cX2_takeDoor 104 = .ok (.invokevirtual 125, 3) := by decide +kernel
theorem dX2_takeDoor_107 : decode cX2_takeDoor 107 = .ok (.iastore, 1) := by decide +kernel
theorem dX2_takeDoor_108 : decode cX2_takeDoor 108 = .ok (.aload_n 0, 1) := by decide +kernel
theorem dX2_takeDoor_109 : decode cX2_takeDoor 109 = .ok (.getfield 23, 3) := by decide +kernel
theorem dX2_takeDoor_112 : decode cX2_takeDoor 112 = .ok (.getfield 152, 3) := by decide +kernel
theorem dX2_takeDoor_115 : decode cX2_takeDoor 115 = .ok (.iload_n 1, 1) := by decide +kernel
theorem dX2_takeDoor_116 : decode cX2_takeDoor 116 = .ok (.aload_n 0, 1) := by decide +kernel
theorem dX2_takeDoor_117 : decode cX2_takeDoor 117 = .ok (.iconst 1, 1) := by decide +kernel
theorem dX2_takeDoor_118 : decode cX2_takeDoor 118 = .ok (.bipush 9, 2) := by decide +kernel
theorem dX2_takeDoor_120 : decode cX2_takeDoor 120 = .ok (.invokevirtual 125, 3) := by decide +kernel
theorem dX2_takeDoor_123 : decode cX2_takeDoor 123 = .ok (.iastore, 1) := by decide +kernel
theorem dX2_takeDoor_124 : decode cX2_takeDoor 124 = .ok (.aload_n 0, 1) := by decide +kernel
theorem dX2_takeDoor_125 : decode cX2_takeDoor 125 = .ok (.getfield 23, 3) := by decide +kernel
theorem dX2_takeDoor_128 : decode cX2_takeDoor 128 = .ok (.getfield 155, 3) := by decide +kernel
theorem dX2_takeDoor_131 : decode cX2_takeDoor 131 = .ok (.iload_n 1, 1) := by decide +kernel
theorem dX2_takeDoor_132 : decode cX2_takeDoor 132 = .ok (.aload_n 0, 1) := by decide +kernel
theorem dX2_takeDoor_133 : decode cX2_takeDoor 133 = .ok (.iconst 1, 1) := by decide +kernel
theorem dX2_takeDoor_134 : decode cX2_takeDoor 134 = .ok (.bipush 9, 2) := by decide +kernel
theorem dX2_takeDoor_136 : decode cX2_takeDoor 136 = .ok (.invokevirtual 125, 3) := by decide +kernel
theorem dX2_takeDoor_139 : decode cX2_takeDoor 139 = .ok (.iastore, 1) := by decide +kernel
theorem dX2_takeDoor_140 : decode cX2_takeDoor 140 = .ok (.aload_n 0, 1) := by decide +kernel
theorem dX2_takeDoor_141 : decode cX2_takeDoor 141 = .ok (.invokevirtual 30, 3) := by decide +kernel
theorem dX2_takeDoor_144 : decode cX2_takeDoor 144 = .ok (.aload_n 0, 1) := by decide +kernel
theorem dX2_takeDoor_145 : decode cX2_takeDoor 145 = .ok (.ldc 158, 2) := by decide +kernel
theorem dX2_takeDoor_147 : decode cX2_takeDoor 147 = .ok (.invokevirtual 93, 3) := by decide +kernel
theorem dX2_takeDoor_150 : decode cX2_takeDoor 150 = .ok (.istore_n 2, 1) := by decide +kernel
theorem dX2_takeDoor_151 : decode cX2_takeDoor 151 = .ok (.aload_n 0, 1) := by decide +kernel
theorem dX2_takeDoor_152 : decode cX2_takeDoor 152 = .ok (.getfield 23, 3) := by decide +kernel
theorem dX2_takeDoor_155 : decode cX2_takeDoor 155 = .ok (.getfield 160, 3) := by decide +kernel
theorem dX2_takeDoor_158 : decode cX2_takeDoor 158 = .ok (.iload_n 1, 1) := by decide +kernel
theorem dX2_takeDoor_159 : decode cX2_takeDoor 159 = .ok (.iload_n 2, 1) := by decide +kernel
theorem dX2_takeDoor_160 : decode cX2_takeDoor 160 = .ok (.ifCond .eq 7, 3) := by decide +kernel
theorem dX2_takeDoor_163 : decode cX2_takeDoor 163 = .ok (.iconst 0, 1) := by decide +kernel
theorem dX2_takeDoor_164 : decode cX2_takeDoor 164 = .ok (.goto 4, 3) := by decide +kernel
theorem dX2_takeDoor_167 : decode cX2_takeDoor 167 = .ok (.iconst 1, 1) := by decide +kernel
theorem dX2_takeDoor_168 : decode cX2_takeDoor 168 = .ok (.iastore, 1) := by decide +kernel
theorem dX2_takeDoor_169 : decode cX2_takeDoor 169 = .ok (.iload_n 2, 1) := by decide +kernel
theorem dX2_takeDoor_170 : decode cX2_takeDoor 170 = .ok (.ifCond .eq 7, 3) := by decide +kernel
theorem dX2_takeDoor_173 : decode cX2_takeDoor 173 = .ok (.aload_n 0, 1) := by decide +kernel
theorem dX2_takeDoor_174 : decode cX2_takeDoor 174 = .ok (.invokevirtual 30, 3) := by decide +kernel
theorem dX2_takeDoor_177 : decode cX2_takeDoor 177 = .ok (.aload_n 0, 1) := by decide +kernel
theorem dX2_takeDoor_178 : decode cX2_takeDoor 178 = .ok (.getfield 36, 3) := by decide +kernel
theorem dX2_takeDoor_181 : decode cX2_takeDoor 181 = .ok (.iconst 4, 1) := by decide +kernel
theorem dX2_takeDoor_182 : decode cX2_takeDoor 182 = .ok (.if_icmp .eq 8, 3) := by decide +kernel
theorem dX2_takeDoor_185 : decode cX2_takeDoor 185 = .ok (.aload_n 0, 1) := by decide +kernel
theorem dX2_takeDoor_186 : decode cX2_takeDoor 186 = .ok (.iconst 2, 1) := by decide +kernel
theorem dX2_takeDoor_187 : decode cX2_takeDoor 187 = .ok (.invokevirtual 64, 3) := by decide +kernel
theorem dX2_takeDoor_190 : decode cX2_takeDoor 190 = .ok (.aload_n 0, 1) := by decide +kernel
theorem dX2_takeDoor_191 : decode cX2_takeDoor 191 = .ok (.getfield 23, 3) := by decide +kernel
theorem dX2_takeDoor_194 : decode cX2_takeDoor 194 = .ok (.dup, 1) := by decide +kernel
theorem dX2_takeDoor_195 : decode cX2_takeDoor 195 = .ok (.getfield 140, 3) := by decide +kernel
theorem dX2_takeDoor_198 : decode cX2_takeDoor 198 = .ok (.iconst 1, 1) := by decide +kernel
theorem dX2_takeDoor_199 : decode cX2_takeDoor 199 = .ok (.iadd, 1) := by decide +kernel
theorem dX2_takeDoor_200 : decode cX2_takeDoor 200 = .ok (.putfield 140, 3) := by decide +kernel
theorem dX2_takeDoor_203 : decode cX2_takeDoor 203 = .ok (.return_, 1) := by decide +kernel
theorem dX2_takeSign_0 : decode cX2_takeSign 0 = .ok (.aload_n 0, 1) := by decide +kernel
theorem dX2_takeSign_1 : decode cX2_takeSign 1 = .ok (.invokevirtual 30, 3) := by decide +kernel
theorem dX2_takeSign_4 : decode cX2_takeSign 4 = .ok (.aload_n 0, 1) := by decide +kernel
theorem dX2_takeSign_5 : decode cX2_takeSign 5 = .ok (.getfield 36, 3) := by decide +kernel
theorem dX2_takeSign_8 : decode cX2_takeSign 8 = .ok (.iconst 4, 1) := by decide +kernel
theorem dX2_takeSign_9 : decode cX2_takeSign 9 = .ok (.if_icmp .eq 8, 3) := by decide +kernel
theorem dX2_takeSign_12 : decode cX2_takeSign 12 = .ok (.aload_n 0, 1) := by decide +kernel
theorem dX2_takeSign_13 : decode cX2_takeSign 13 = .ok (.iconst 2, 1) := by decide +kernel
theorem dX2_takeSign_14 : decode cX2_takeSign 14 = .ok (.invokevirtual 64, 3) := by decide +kernel
theorem dX2_takeSign_17 : decode cX2_takeSign 17 = .ok (.return_, 1) := by decide +kernel
theorem dX2_takeHold_0 : decode cX2_takeHold 0 = .ok (.aload_n 0, 1) := by decide +kernel
theorem dX2_takeHold_1 : decode cX2_takeHold 1 = .ok (.getfield 23, 3) := by decide +kernel
theorem dX2_takeHold_4 : decode cX2_takeHold 4 = .ok (.getfield 59, 3) := by decide +kernel
theorem dX2_takeHold_7 : decode cX2_takeHold 7 = .ok (.istore_n 1, 1) := by decide +kernel
theorem dX2_takeHold_8 : decode cX2_takeHold 8 = .ok (.iload_n 1, 1) := by decide +kernel
theorem dX2_takeHold_9 : decode cX2_takeHold 9 = .ok (.bipush 8, 2) := by decide +kernel
theorem dX2_takeHold_11 : decode cX2_takeHold 11 = .ok (.if_icmp .lt 9, 3) := by decide +kernel
theorem dX2_takeHold_14 : decode cX2_takeHold 14 = .ok (.aload_n 0, 1) := by decide +kernel
theorem dX2_takeHold_15 : decode cX2_takeHold 15 = .ok (.iconst 5, 1) := by decide +kernel
theorem dX2_takeHold_16 : decode cX2_takeHold 16 = .ok (.invokevirtual 64, 3) := by decide +kernel
theorem dX2_takeHold_19 : decode cX2_takeHold 19 = .ok (.return_, 1) := by decide +kernel
theorem dX2_takeHold_20 : decode cX2_takeHold 20 = .ok (.aload_n 0, 1) := by decide +kernel
theorem dX2_takeHold_21 : decode cX2_takeHold 21 = .ok (.getfield 23, 3) := by decide +kernel
theorem dX2_takeHold_24 : decode cX2_takeHold 24 = .ok (.getfield 121, 3) := by decide +kernel
theorem dX2_takeHold_27 : decode cX2_takeHold 27 = .ok (.iload_n 1, 1) := by decide +kernel
theorem dX2_takeHold_28 : decode cX2_takeHold 28 = .ok (.aload_n 0, 1) := by decide +kernel
theorem dX2_takeHold_29 : decode cX2_takeHold 29 = .ok (.iconst 1, 1) := by decide +kernel
theorem dX2_takeHold_30 : decode cX2_takeHold 30 = .ok (.bipush 99, 2) := by decide +kernel
theorem dX2_takeHold_32 : decode cX2_takeHold 32 = .ok (.invokevirtual 125, 3) := by decide +kernel
theorem dX2_takeHold_35 : decode cX2_takeHold 35 = .ok (.iastore, 1) := by decide +kernel
theorem dX2_takeHold_36 : decode cX2_takeHold 36 = .ok (.aload_n 0, 1) := by decide +kernel
theorem dX2_takeHold_37 : decode cX2_takeHold 37 = .ok (.getfield 23, 3) := by decide +kernel
theorem dX2_takeHold_40 : decode cX2_takeHold 40 = .ok (.getfield 128, 3) := by decide +kernel
theorem dX2_takeHold_43 : decode cX2_takeHold 43 = .ok (.iload_n 1, 1) := by decide +kernel
theorem dX2_takeHold_44 : decode cX2_takeHold 44 = .ok (.aload_n 0, 1) := by decide +kernel
theorem dX2_takeHold_45 : decode cX2_takeHold 45 = .ok (.iconst 0, 1) := by decide +kernel
theorem dX2_takeHold_46 : decode cX2_takeHold 46 = .ok (.iconst 2, 1) := by decide +kernel
theorem dX2_takeHold_47 : decode cX2_takeHold 47 = .ok (.invokevirtual 125, 3) := by decide +kernel
theorem dX2_takeHold_50 : decode cX2_takeHold 50 = .ok (.iastore, 1) := by decide +kernel
theorem dX2_takeHold_51 : decode cX2_takeHold 51 = .ok (.aload_n 0, 1) := by decide +kernel
theorem dX2_takeHold_52 : decode cX2_takeHold 52 = .ok (.getfield 23, 3) := by decide +kernel
theorem dX2_takeHold_55 : decode cX2_takeHold 55 = .ok (.getfield 131, 3) := by decide +kernel
theorem dX2_takeHold_58 : decode cX2_takeHold 58 = .ok (.iload_n 1, 1) := by decide +kernel
theorem dX2_takeHold_59 : decode cX2_takeHold 59 = .ok (.aload_n 0, 1) := by decide +kernel
theorem dX2_takeHold_60 : decode cX2_takeHold 60 = .ok (.iconst 0, 1) := by decide +kernel
theorem dX2_takeHold_61 : decode cX2_takeHold 61 = .ok (.bipush 18, 2) := by decide +kernel
theorem dX2_takeHold_63 : decode cX2_takeHold 63 = .ok (.invokevirtual 125, 3) := by decide +kernel
theorem dX2_takeHold_66 : decode cX2_takeHold 66 = .ok (.iastore, 1) := by decide +kernel
theorem dX2_takeHold_67 : decode cX2_takeHold 67 = .ok (.aload_n 0, 1) := by decide +kernel
theorem dX2_takeHold_68 : decode cX2_takeHold 68 = .ok (.getfield 23, 3) := by decide +kernel
theorem dX2_takeHold_71 : decode cX2_takeHold 71 = .ok (.getfield 134, 3) := by decide +kernel
theorem dX2_takeHold_74 : decode cX2_takeHold 74 = .ok (.iload_n 1, 1) := by decide +kernel
theorem dX2_takeHold_75 : decode cX2_takeHold 75 = .ok (.aload_n 0, 1) := by decide +kernel
theorem dX2_takeHold_76 : decode cX2_takeHold 76 = .ok (.iconst 0, 1) := by decide +kernel
theorem dX2_takeHold_77 : decode cX2_takeHold 77 = .ok (.aload_n 0, 1) := by decide +kernel
theorem dX2_takeHold_78 : decode cX2_takeHold 78 = .ok (.getfield 23, 3) := by decide +kernel
theorem dX2_takeHold_81 : decode cX2_takeHold 81 = .ok (.getfield 121, 3) := by decide +kernel
theorem dX2_takeHold_84 : decode cX2_takeHold 84 = .ok (.iload_n 1, 1) := by decide +kernel
theorem dX2_takeHold_85 : decode cX2_takeHold 85 = .ok (.iaload, 1) := by decide +kernel
theorem dX2_takeHold_86 : decode cX2_takeHold 86 = .ok (.invokevirtual 125, 3) := by decide +kernel
theorem dX2_takeHold_89 : decode cX2_takeHold 89 = .ok (.iastore, 1) := by decide +kernel
theorem dX2_takeHold_90 : decode cX2_takeHold 90 = .ok (.aload_n 0, 1) := by decide +kernel
theorem dX2_takeHold_91 : decode cX2_takeHold 91 = .ok (.invokevirtual 137, 3) := by decide +kernel
theorem dX2_takeHold_94 : decode cX2_takeHold 94 = .ok (.aload_n 0, 1) := by decide +kernel
theorem dX2_takeHold_95 : decode cX2_takeHold 95 = .ok (.getfield 23, 3) := by decide +kernel
theorem dX2_takeHold_98 : decode cX2_takeHold 98 = .ok (.dup, 1) := by decide +kernel
theorem dX2_takeHold_99 : decode cX2_takeHold 99 = .ok (.getfield 59, 3) := by decide +kernel
theorem dX2_takeHold_102 : decode cX2_takeHold 102 = .ok (.iconst 1, 1) := by decide +kernel
theorem dX2_takeHold_103 : decode cX2_takeHold 103 = .ok (.iadd, 1) := by decide +kernel
theorem dX2_takeHold_104 : decode cX2_takeHold 104 = .ok (.putfield 59, 3) := by decide +kernel
theorem dX2_takeHold_107 : decode cX2_takeHold 107 = .ok (.return_, 1) := by decide +kernel
theorem dX2_takeHole_0 : decode cX2_takeHole 0 = .ok (.aload_n 0, 1) := by decide +kernel
theorem dX2_takeHole_1 : decode cX2_takeHole 1 = .ok (.getfield 23, 3) := by decide +kernel
theorem dX2_takeHole_4 : decode cX2_takeHole 4 = .ok (.getfield 163, 3) := by decide +kernel
theorem dX2_takeHole_7 : decode cX2_takeHole 7 = .ok (.istore_n 1, 1) := by decide +kernel
theorem dX2_takeHole_8 : decode cX2_takeHole 8 = .ok (.iload_n 1, 1) := by decide +kernel
theorem dX2_takeHole_9 : decode cX2_takeHole 9 = .ok (.iconst 4, 1) := by decide +kernel
theorem dX2_takeHole_10 : decode cX2_takeHole 10 = .ok (.if_icmp .lt 9, 3) := by decide +kernel
theorem dX2_takeHole_13 : decode cX2_takeHole 13 = .ok (.aload_n 0, 1) := by decide +kernel
theorem dX2_takeHole_14 : decode cX2_takeHole 14 = .ok (.iconst 5, 1) := by decide +kernel
theorem dX2_takeHole_15 : decode cX2_takeHole 15 = .ok (.invokevirtual 64, 3) := by decide +kernel
theorem dX2_takeHole_18 : decode cX2_takeHole 18 = .ok (.return_, 1) := by decide +kernel
theorem dX2_takeHole_19 : decode cX2_takeHole 19 = .ok (.aload_n 0, 1) := by decide +kernel
theorem dX2_takeHole_20 : decode cX2_takeHole 20 = .ok (.getfield 23, 3) := by decide +kernel
theorem dX2_takeHole_23 : decode cX2_takeHole 23 = .ok (.getfield 166, 3) := by decide +kernel
theorem dX2_takeHole_26 : decode cX2_takeHole 26 = .ok (.iload_n 1, 1) := by decide +kernel
theorem dX2_takeHole_27 : decode cX2_takeHole 27 = .ok (.aload_n 0, 1) := by decide +kernel
theorem dX2_takeHole_28 : decode cX2_takeHole 28 = .ok (.iconst 0, 1) := by decide +kernel
theorem dX2_takeHole_29 : decode cX2_takeHole 29 = .ok (.aload_n 0, 1) := by decide +kernel
theorem dX2_takeHole_30 : decode cX2_takeHole 30 = .ok (.getfield 23, 3) := by decide +kernel
theorem dX2_takeHole_33 : decode cX2_takeHole 33 = .ok (.getfield 59, 3) := by decide +kernel
theorem dX2_takeHole_36 : decode cX2_takeHole 36 = .ok (.iconst 1, 1) := by decide +kernel
theorem dX2_takeHole_37 : decode cX2_takeHole 37 = .ok (.isub, 1) := by decide +kernel
theorem dX2_takeHole_38 : decode cX2_takeHole 38 = .ok (.invokevirtual 125, 3) := by decide +kernel
theorem dX2_takeHole_41 : decode cX2_takeHole 41 = .ok (.iastore, 1) := by decide +kernel
theorem dX2_takeHole_42 : decode cX2_takeHole 42 = .ok (.aload_n 0, 1) := by decide +kernel
theorem dX2_takeHole_43 : decode cX2_takeHole 43 = .ok (.getfield 23, 3) := by decide +kernel
theorem dX2_takeHole_46 : decode cX2_takeHole 46 = .ok (.getfield 169, 3) := by decide +kernel
theorem dX2_takeHole_49 : decode cX2_takeHole 49 = .ok (.iload_n 1, 1) := by decide +kernel
theorem dX2_takeHole_50 : decode cX2_takeHole 50 = .ok (.aload_n 0, 1) := by decide +kernel
theorem dX2_takeHole_51 : decode cX2_takeHole 51 = .ok (.iconst 1, 1) := by decide +kernel
theorem dX2_takeHole_52 : decode cX2_takeHole 52 = .ok (.bipush 20, 2) := by decide +kernel
theorem dX2_takeHole_54 : decode cX2_takeHole 54 = .ok (.invokevirtual 125, 3) := by decide +kernel
theorem dX2_takeHole_57 : decode cX2_takeHole 57 = .ok (.iastore, 1) := by decide +kernel
theorem dX2_takeHole_58 : decode cX2_takeHole 58 = .ok (.aload_n 0, 1) := by decide +kernel
theorem dX2_takeHole_59 : decode cX2_takeHole 59 = .ok (.getfield 23, 3) := by decide +kernel
theorem dX2_takeHole_62 : decode cX2_takeHole 62 = .ok (.getfield 172, 3) := by decide +kernel
theorem dX2_takeHole_65 : decode cX2_takeHole 65 = .ok (.iload_n 1, 1) := by decide +kernel
theorem dX2_takeHole_66 : decode cX2_takeHole 66 = .ok (.aload_n 0, 1) := by decide +kernel
theorem dX2_takeHole_67 : decode cX2_takeHole 67 = .ok (.iconst 1, 1) := by decide +kernel
theorem dX2_takeHole_68 : decode cX2_takeHole 68 = .ok (.bipush 20, 2) := by decide +kernel
theorem dX2_takeHole_70 : decode cX2_takeHole 70 = .ok (.invokevirtual 125, 3) := by decide +kernel
theorem dX2_takeHole_73 : decode cX2_takeHole 73 = .ok (.iastore, 1) := by decide +kernel
theorem dX2_takeHole_74 : decode cX2_takeHole 74 = .ok (.aload_n 0, 1) := by decide +kernel
theorem dX2_takeHole_75 : decode cX2_takeHole 75 = .ok (.invokevirtual 137, 3) := by decide +kernel
theorem dX2_takeHole_78 : decode cX2_takeHole 78 = .ok (.aload_n 0, 1) := by decide +kernel
theorem dX2_takeHole_79 : decode cX2_takeHole 79 = .ok (.getfield 23, 3) := by decide +kernel
theorem dX2_takeHole_82 : decode cX2_takeHole 82 = .ok (.dup, 1) := by decide +kernel
theorem dX2_takeHole_83 : decode cX2_takeHole 83 = .ok (.getfield 163, 3) := by decide +kernel
theorem dX2_takeHole_86 : decode cX2_takeHole 86 = .ok (.iconst 1, 1) := by decide +kernel
theorem dX2_takeHole_87 : decode cX2_takeHole 87 = .ok (.iadd, 1) := by decide +kernel
theorem dX2_takeHole_88 : decode cX2_takeHole 88 = .ok (.putfield 163, 3) := by decide +kernel
theorem dX2_takeHole_91 : decode cX2_takeHole 91 = .ok (.return_, 1) := by decide +kernel
theorem dX2_takePump_0 : decode cX2_takePump 0 = .ok (.aload_n 0, 1) := by decide +kernel
theorem dX2_takePump_1 : decode cX2_takePump 1 = .ok (.getfield 23, 3) := by decide +kernel
theorem dX2_takePump_4 : decode cX2_takePump 4 = .ok (.getfield 175, 3) := by decide +kernel
theorem dX2_takePump_7 : decode cX2_takePump 7 = .ok (.istore_n 1, 1) := by decide +kernel
theorem dX2_takePump_8 : decode cX2_takePump 8 = .ok (.iload_n 1, 1) := by decide +kernel
theorem dX2_takePump_9 : decode cX2_takePump 9 = .ok (.iconst 3, 1) := by decide +kernel
theorem dX2_takePump_10 : decode cX2_takePump 10 = .ok (.if_icmp .lt 9, 3) := by decide +kernel
theorem dX2_takePump_13 : decode cX2_takePump 13 = .ok (.aload_n 0, 1) := by decide +kernel
theorem dX2_takePump_14 : decode cX2_takePump 14 = .ok (.iconst 5, 1) := by decide +kernel
theorem dX2_takePump_15 : decode cX2_takePump 15 = .ok (.invokevirtual 64, 3) := by decide +kernel
theorem dX2_takePump_18 : decode cX2_takePump 18 = .ok (.return_, 1) := by decide +kernel
theorem dX2_takePump_19 : decode cX2_takePump 19 = .ok (.aload_n 0, 1) := by decide +kernel
theorem dX2_takePump_20 : decode cX2_takePump 20 = .ok (.getfield 23, 3) := by decide +kernel
theorem dX2_takePump_23 : decode cX2_takePump 23 = .ok (.getfield 178, 3) := by decide +kernel
theorem dX2_takePump_26 : decode cX2_takePump 26 = .ok (.iload_n 1, 1) := by decide +kernel
theorem dX2_takePump_27 : decode cX2_takePump 27 = .ok (.aload_n 0, 1) := by decide +kernel
theorem dX2_takePump_28 : decode cX2_takePump 28 = .ok (.iconst 1, 1) := by decide +kernel
theorem dX2_takePump_29 : decode cX2_takePump 29 = .ok (.bipush 9, 2) := by decide +kernel
theorem dX2_takePump_31 : decode cX2_takePump 31 = .ok (.invokevirtual 125, 3) := by decide +kernel
theorem dX2_takePump_34 : decode cX2_takePump 34 = .ok (.iastore, 1) := by decide +kernel
theorem dX2_takePump_35 : decode cX2_takePump 35 = .ok (.aload_n 0, 1) := by decide +kernel
theorem dX2_takePump_36 : decode cX2_takePump 36 = .ok (.getfield 23, 3) := by decide +kernel
theorem dX2_takePump_39 : decode cX2_takePump 39 = .ok (.getfield 181, 3) := by decide +kernel
theorem dX2_takePump_42 : decode cX2_takePump 42 = .ok (.iload_n 1, 1) := by decide +kernel
theorem dX2_takePump_43 : decode cX2_takePump 43 = .ok (.aload_n 0, 1) := by decide +kernel
theorem dX2_takePump_44 : decode cX2_takePump 44 = .ok (.iconst 0, 1) := by decide +kernel
theorem dX2_takePump_45 : decode cX2_takePump 45 = .ok (.aload_n 0, 1) := by decide +kernel
theorem dX2_takePump_46 : decode cX2_takePump 46 = .ok (.getfield 23, 3) := by decide +kernel
theorem dX2_takePump_49 : decode cX2_takePump 49 = .ok (.getfield 59, 3) := by decide +kernel
theorem dX2_takePump_52 : decode cX2_takePump 52 = .ok (.iconst 1, 1) := by decide +kernel
theorem dX2_takePump_53 : decode cX2_takePump 53 = .ok (.isub, 1) := by decide +kernel
theorem dX2_takePump_54 : decode cX2_takePump 54 = .ok (.invokevirtual 125, 3) := by decide +kernel
theorem dX2_takePump_57 : decode cX2_takePump 57 = .ok (.iastore, 1) := by decide +kernel
theorem dX2_takePump_58 : decode cX2_takePump 58 = .ok (.aload_n 0, 1) := by decide +kernel
theorem dX2_takePump_59 : decode cX2_takePump 59 = .ok (.invokevirtual 137, 3) := by decide +kernel
theorem dX2_takePump_62 : decode cX2_takePump 62 = .ok (.aload_n 0, 1) := by decide +kernel
theorem dX2_takePump_63 : decode cX2_takePump 63 = .ok (.getfield 23, 3) := by decide +kernel
theorem dX2_takePump_66 : decode cX2_takePump 66 = .ok (.dup, 1) := by decide +kernel
theorem dX2_takePump_67 : decode cX2_takePump 67 = .ok (.getfield 175, 3) := by decide +kernel
theorem dX2_takePump_70 : decode cX2_takePump 70 = .ok (.iconst 1, 1) := by decide +kernel
theorem dX2_takePump_71 : decode cX2_takePump 71 = .ok (.iadd, 1) := by decide +kernel
theorem dX2_takePump_72 : decode cX2_takePump 72 = .ok (.putfield 175, 3) := by decide +kernel
theorem dX2_takePump_75 : decode cX2_takePump 75 = .ok (.return_, 1) := by decide +kernel
theorem dX2_takeRule_0 : decode cX2_takeRule 0 = .ok (.aload_n 0, 1) := by decide +kernel
theorem dX2_takeRule_1 : decode cX2_takeRule 1 = .ok (.getfield 15, 3) := by decide +kernel
theorem dX2_takeRule_4 : decode cX2_takeRule 4 = .ok (.iload_n 1, 1) := by decide +kernel
theorem dX2_takeRule_5 : decode cX2_takeRule 5 = .ok (.baload, 1) := by decide +kernel
theorem dX2_takeRule_6 : decode cX2_takeRule 6 = .ok (.ifCond .eq 9, 3) := by decide +kernel
theorem dX2_takeRule_9 : decode cX2_takeRule 9 = .ok (.aload_n 0, 1) := by decide +kernel
theorem dX2_takeRule_10 : decode cX2_takeRule 10 = .ok (.iconst 4, 1) := by decide +kernel
theorem dX2_takeRule_11 : decode cX2_takeRule 11 = .ok (.invokevirtual 64, 3) := by decide +kernel
theorem dX2_takeRule_14 : decode cX2_takeRule 14 = .ok (.return_, 1) := by decide +kernel
theorem dX2_takeRule_15 : decode cX2_takeRule 15 = .ok (.aload_n 0, 1) := by decide +kernel
theorem dX2_takeRule_16 : decode cX2_takeRule 16 = .ok (.getfield 15, 3) := by decide +kernel
theorem dX2_takeRule_19 : decode cX2_takeRule 19 = .ok (.iload_n 1, 1) := by decide +kernel
theorem dX2_takeRule_20 : decode cX2_takeRule 20 = .ok (.iconst 1, 1) := by decide +kernel
theorem dX2_takeRule_21 : decode cX2_takeRule 21 = .ok (.bastore, 1) := by decide +kernel
theorem dX2_takeRule_22 : decode cX2_takeRule 22 = .ok (.aload_n 0, 1) := by decide +kernel
theorem dX2_takeRule_23 : decode cX2_takeRule 23 = .ok (.getfield 23, 3) := by decide +kernel
theorem dX2_takeRule_26 : decode cX2_takeRule 26 = .ok (.getfield 184, 3) := by decide +kernel
theorem dX2_takeRule_29 : decode cX2_takeRule 29 = .ok (.iload_n 1, 1) := by decide +kernel
theorem dX2_takeRule_30 : decode cX2_takeRule 30 = .ok (.aload_n 0, 1) := by decide +kernel
theorem dX2_takeRule_31 : decode cX2_takeRule 31 = .ok (.iload_n 2, 1) := by decide +kernel
theorem dX2_takeRule_32 : decode cX2_takeRule 32 = .ok (.iload_n 3, 1) := by decide +kernel
theorem dX2_takeRule_33 : decode cX2_takeRule 33 = .ok (.invokevirtual 125, 3) := by decide +kernel
theorem dX2_takeRule_36 : decode cX2_takeRule 36 = .ok (.iastore, 1) := by decide +kernel
theorem dX2_takeRule_37 : decode cX2_takeRule 37 = .ok (.aload_n 0, 1) := by decide +kernel
theorem dX2_takeRule_38 : decode cX2_takeRule 38 = .ok (.invokevirtual 137, 3) := by decide +kernel
theorem dX2_takeRule_41 : decode cX2_takeRule 41 = .ok (.return_, 1) := by decide +kernel
def f_X2_takeDoor (F : Nat) (m : Mm) (T : Nat) : Option (Mm) :=
  letv (m T 1) fun x1 => if x1 < (10 : Int32) then (bind2 (f_X2_takeNumber F m 0 ((m T 0) - (1 : Int32))) fun x2 m3 => (ast m3 (T + 5) 10 x1 x2).bind fun m4 => bind2 (f_X2_takeNumber F m4 0 ((m4 T 0) - (1 : Int32))) fun x5 m6 => (ast m6 (T + 6) 10 x1 x5).bind fun m7 => (ald m7 (T + 6) 10 x1).bind fun x8 => (ald m7 (T + 5) 10 x1).bind fun x9 => (if x8 = x9 then ((f_X2_refuse m7 3).bind fun m12 => some m12) else (some m7) : Option (Mm)).bind fun y10 => bind2 (f_X2_takeNumber F y10 0 12) fun x13 m14 => (ast m14 (T + 7) 10 x1 x13).bind fun m15 => bind2 (f_X2_takeNumber F m15 1 9) fun x16 m17 => (ast m17 (T + 8) 10 x1 x16).bind fun m18 => bind2 (f_X2_takeNumber F m18 1 9) fun x19 m20 => (ast m20 (T + 9) 10 x1 x19).bind fun m21 => (f_X2_nextToken F m21).bind fun m23 => (f_X2_spells F m23 ((UInt32.ofNat 9))).bind fun x24 => (if x24 = 0 then (some 1) else (some 0) : Option (Int32)).bind fun y26 => (ast m23 (T + 10) 10 x1 y26).bind fun m27 => (if x24 = 0 then (some m27) else ((f_X2_nextToken F m27).bind fun m30 => some m30) : Option (Mm)).bind fun y28 => (if (y28 1 9) = (4 : Int32) then (some y28) else ((f_X2_refuse y28 2).bind fun m33 => some m33) : Option (Mm)).bind fun y31 => letv (up2 y31 T 1 ((y31 T 1) + (1 : Int32))) fun m34 => some m34) else ((f_X2_refuse m 5).bind fun m36 => some m36)
set_option maxHeartbeats 4000000 in
set_option maxRecDepth 100000 in
theorem ct_X2_takeDoor (F : Nat) {n : Nat} (hn : 113 ≤ n) (P D : Nat) (T : Nat) (hT : isPl T) (m : Mm)  : Ct yX2_takeDoor cX2_takeDoor 3 none 5 107 [.ref 1] n n m (RF P D (some T)) (rV (RF P D (some T)) (f_X2_takeDoor F m T)) := by
  refine Ct.ofV (own := RX2) (nm := "takeDoor") [(0, .ref 1)] (by decide) (Nat.le_of_ble_eq_true rfl) rfl rfl rfl ?_
  unfold f_X2_takeDoor
  refine J_aload_n 0 0 1 dX2_takeDoor_0 rfl rfl ?_
  refine J_getR 1 2 6 T dX2_takeDoor_1 fl_2_23 rfl rfl (Nat.lt_of_lt_of_le (Nat.le_of_ble_eq_true rfl) hn) rfl ?_
  refine J_getI T 1 1 dX2_takeDoor_4 fl_2_140 (layc_Pl_0 hT) rfl (lt_Pl_0 hT hn) ?_
  refine J_let (fun x1 => ?_)
  refine J_istore_n 1 [(1, .int x1), (0, .ref 1)] dX2_takeDoor_7 rfl (by decide) rfl ?_
  refine J_iload_n 1 0 x1 dX2_takeDoor_8 rfl rfl ?_
  refine J_bipush 10 dX2_takeDoor_9 (by decide) ?_
  refine J_icmp_lt 20 dX2_takeDoor_11 (by decide) ?_ ?_
  · refine J_aload_n 0 1 1 dX2_takeDoor_20 rfl rfl ?_
    refine J_getR 1 2 6 T dX2_takeDoor_21 fl_2_23 rfl rfl (Nat.lt_of_lt_of_le (Nat.le_of_ble_eq_true rfl) hn) rfl ?_
    refine J_getR T 1 8 (T + 5) dX2_takeDoor_24 fl_2_143 (layc_Pl_0 hT) rfl (lt_Pl_0 hT hn) (rf_Pl_0_8 hT) ?_
    refine J_iload_n 1 0 x1 dX2_takeDoor_27 rfl rfl ?_
    refine J_aload_n 0 1 1 dX2_takeDoor_28 rfl rfl ?_
    refine J_iconst 0 dX2_takeDoor_29 (by decide) ?_
    refine J_aload_n 0 1 1 dX2_takeDoor_30 rfl rfl ?_
    refine J_getR 1 2 6 T dX2_takeDoor_31 fl_2_23 rfl rfl (Nat.lt_of_lt_of_le (Nat.le_of_ble_eq_true rfl) hn) rfl ?_
    refine J_getI T 1 0 dX2_takeDoor_34 fl_2_59 (layc_Pl_0 hT) rfl (lt_Pl_0 hT hn) ?_
    refine J_iconst 1 dX2_takeDoor_37 (by decide) ?_
    refine J_isub dX2_takeDoor_38 ?_
    refine J_callVI 1 2 2 [.int 0, .int ((m T 0) - (1 : Int32))] dX2_takeDoor_39 mv_X2_takeNumber mv_X2_takeNumberv lk_2_125 (ct_X2_takeNumber F hn P D (some T) m 0 ((m T 0) - (1 : Int32))) rfl rfl (by decide) rfl (Nat.lt_of_lt_of_le (Nat.le_of_ble_eq_true rfl) hn) ⟨by decide, by decide⟩ (Nat.le_of_ble_eq_true rfl) (fun x2 m3 => ?_)
    refine J_iast (T + 5) 10 dX2_takeDoor_42 (lay_Pl_5 hT) (lt_Pl_5 hT hn) (fun m4 => ?_)
    refine J_aload_n 0 1 1 dX2_takeDoor_43 rfl rfl ?_
    refine J_getR 1 2 6 T dX2_takeDoor_44 fl_2_23 rfl rfl (Nat.lt_of_lt_of_le (Nat.le_of_ble_eq_true rfl) hn) rfl ?_
    refine J_getR T 1 9 (T + 6) dX2_takeDoor_47 fl_2_146 (layc_Pl_0 hT) rfl (lt_Pl_0 hT hn) (rf_Pl_0_9 hT) ?_
    refine J_iload_n 1 0 x1 dX2_takeDoor_50 rfl rfl ?_
    refine J_aload_n 0 1 1 dX2_takeDoor_51 rfl rfl ?_
    refine J_iconst 0 dX2_takeDoor_52 (by decide) ?_
    refine J_aload_n 0 1 1 dX2_takeDoor_53 rfl rfl ?_
    refine J_getR 1 2 6 T dX2_takeDoor_54 fl_2_23 rfl rfl (Nat.lt_of_lt_of_le (Nat.le_of_ble_eq_true rfl) hn) rfl ?_
    refine J_getI T 1 0 dX2_takeDoor_57 fl_2_59 (layc_Pl_0 hT) rfl (lt_Pl_0 hT hn) ?_
    refine J_iconst 1 dX2_takeDoor_60 (by decide) ?_
    refine J_isub dX2_takeDoor_61 ?_
    refine J_callVI 1 2 2 [.int 0, .int ((m4 T 0) - (1 : Int32))] dX2_takeDoor_62 mv_X2_takeNumber mv_X2_takeNumberv lk_2_125 (ct_X2_takeNumber F hn P D (some T) m4 0 ((m4 T 0) - (1 : Int32))) rfl rfl (by decide) rfl (Nat.lt_of_lt_of_le (Nat.le_of_ble_eq_true rfl) hn) ⟨by decide, by decide⟩ (Nat.le_of_ble_eq_true rfl) (fun x5 m6 => ?_)
    refine J_iast (T + 6) 10 dX2_takeDoor_65 (lay_Pl_6 hT) (lt_Pl_6 hT hn) (fun m7 => ?_)
    refine J_aload_n 0 1 1 dX2_takeDoor_66 rfl rfl ?_
    refine J_getR 1 2 6 T dX2_takeDoor_67 fl_2_23 rfl rfl (Nat.lt_of_lt_of_le (Nat.le_of_ble_eq_true rfl) hn) rfl ?_
    refine J_getR T 1 9 (T + 6) dX2_takeDoor_70 fl_2_146 (layc_Pl_0 hT) rfl (lt_Pl_0 hT hn) (rf_Pl_0_9 hT) ?_
    refine J_iload_n 1 0 x1 dX2_takeDoor_73 rfl rfl ?_
    refine J_iald (T + 6) 10 dX2_takeDoor_74 (lay_Pl_6 hT) (lt_Pl_6 hT hn) (fun x8 => ?_)
    refine J_aload_n 0 1 1 dX2_takeDoor_75 rfl rfl ?_
    refine J_getR 1 2 6 T dX2_takeDoor_76 fl_2_23 rfl rfl (Nat.lt_of_lt_of_le (Nat.le_of_ble_eq_true rfl) hn) rfl ?_
    refine J_getR T 1 8 (T + 5) dX2_takeDoor_79 fl_2_143 (layc_Pl_0 hT) rfl (lt_Pl_0 hT hn) (rf_Pl_0_8 hT) ?_
    refine J_iload_n 1 0 x1 dX2_takeDoor_82 rfl rfl ?_
    refine J_iald (T + 5) 10 dX2_takeDoor_83 (lay_Pl_5 hT) (lt_Pl_5 hT hn) (fun x9 => ?_)
    refine J_seqJ 92 (fun y10 : Mm => [(0, .ref 1), (1, .int x1)]) (fun y10 => []) (fun y10 => y10) (fun y10 => ?_) (fun k1 hEy10 => ?_)
    · refine J_aload_n 0 0 1 dX2_takeDoor_92 rfl rfl ?_
      refine J_getR 1 2 6 T dX2_takeDoor_93 fl_2_23 rfl rfl (Nat.lt_of_lt_of_le (Nat.le_of_ble_eq_true rfl) hn) rfl ?_
      refine J_getR T 1 10 (T + 7) dX2_takeDoor_96 fl_2_149 (layc_Pl_0 hT) rfl (lt_Pl_0 hT hn) (rf_Pl_0_10 hT) ?_
      refine J_iload_n 1 1 x1 dX2_takeDoor_99 rfl rfl ?_
      refine J_aload_n 0 0 1 dX2_takeDoor_100 rfl rfl ?_
      refine J_iconst 0 dX2_takeDoor_101 (by decide) ?_
      refine J_bipush 12 dX2_takeDoor_102 (by decide) ?_
      refine J_callVI 1 2 2 [.int 0, .int 12] dX2_takeDoor_104 mv_X2_takeNumber mv_X2_takeNumberv lk_2_125 (ct_X2_takeNumber F hn P D (some T) y10 0 12) rfl rfl (by decide) rfl (Nat.lt_of_lt_of_le (Nat.le_of_ble_eq_true rfl) hn) ⟨by decide, by decide⟩ (Nat.le_of_ble_eq_true rfl) (fun x13 m14 => ?_)
      refine J_iast (T + 7) 10 dX2_takeDoor_107 (lay_Pl_7 hT) (lt_Pl_7 hT hn) (fun m15 => ?_)
      refine J_aload_n 0 0 1 dX2_takeDoor_108 rfl rfl ?_
      refine J_getR 1 2 6 T dX2_takeDoor_109 fl_2_23 rfl rfl (Nat.lt_of_lt_of_le (Nat.le_of_ble_eq_true rfl) hn) rfl ?_
      refine J_getR T 1 11 (T + 8) dX2_takeDoor_112 fl_2_152 (layc_Pl_0 hT) rfl (lt_Pl_0 hT hn) (rf_Pl_0_11 hT) ?_
      refine J_iload_n 1 1 x1 dX2_takeDoor_115 rfl rfl ?_
      refine J_aload_n 0 0 1 dX2_takeDoor_116 rfl rfl ?_
      refine J_iconst 1 dX2_takeDoor_117 (by decide) ?_
      refine J_bipush 9 dX2_takeDoor_118 (by decide) ?_
      refine J_callVI 1 2 2 [.int 1, .int 9] dX2_takeDoor_120 mv_X2_takeNumber mv_X2_takeNumberv lk_2_125 (ct_X2_takeNumber F hn P D (some T) m15 1 9) rfl rfl (by decide) rfl (Nat.lt_of_lt_of_le (Nat.le_of_ble_eq_true rfl) hn) ⟨by decide, by decide⟩ (Nat.le_of_ble_eq_true rfl) (fun x16 m17 => ?_)
      refine J_iast (T + 8) 10 dX2_takeDoor_123 (lay_Pl_8 hT) (lt_Pl_8 hT hn) (fun m18 => ?_)
      refine J_aload_n 0 0 1 dX2_takeDoor_124 rfl rfl ?_
      refine J_getR 1 2 6 T dX2_takeDoor_125 fl_2_23 rfl rfl (Nat.lt_of_lt_of_le (Nat.le_of_ble_eq_true rfl) hn) rfl ?_
      refine J_getR T 1 12 (T + 9) dX2_takeDoor_128 fl_2_155 (layc_Pl_0 hT) rfl (lt_Pl_0 hT hn) (rf_Pl_0_12 hT) ?_
      refine J_iload_n 1 1 x1 dX2_takeDoor_131 rfl rfl ?_
      refine J_aload_n 0 0 1 dX2_takeDoor_132 rfl rfl ?_
      refine J_iconst 1 dX2_takeDoor_133 (by decide) ?_
      refine J_bipush 9 dX2_takeDoor_134 (by decide) ?_
      refine J_callVI 1 2 2 [.int 1, .int 9] dX2_takeDoor_136 mv_X2_takeNumber mv_X2_takeNumberv lk_2_125 (ct_X2_takeNumber F hn P D (some T) m18 1 9) rfl rfl (by decide) rfl (Nat.lt_of_lt_of_le (Nat.le_of_ble_eq_true rfl) hn) ⟨by decide, by decide⟩ (Nat.le_of_ble_eq_true rfl) (fun x19 m20 => ?_)
      refine J_iast (T + 9) 10 dX2_takeDoor_139 (lay_Pl_9 hT) (lt_Pl_9 hT hn) (fun m21 => ?_)
      refine J_aload_n 0 0 1 dX2_takeDoor_140 rfl rfl ?_
      refine J_callVV 1 2 0 [] dX2_takeDoor_141 mv_X2_nextToken mv_X2_nextTokenv lk_2_30 (ct_X2_nextToken F hn P D (some T) m21) rfl rfl (by decide) rfl (Nat.lt_of_lt_of_le (Nat.le_of_ble_eq_true rfl) hn) ⟨by decide, by decide⟩ (Nat.le_of_ble_eq_true rfl) (fun m23 => ?_)
      refine J_aload_n 0 0 1 dX2_takeDoor_144 rfl rfl ?_
      refine J_ldcS 9 (by decide) rfl rfl dX2_takeDoor_145 ?_
      refine J_callVP 1 2 1 [.float ((UInt32.ofNat 9))] dX2_takeDoor_147 mv_X2_spells mv_X2_spellsv lk_2_93 (ct_X2_spells F hn P D (some T) m23 ((UInt32.ofNat 9)) (by decide)) rfl rfl (by decide) rfl (Nat.lt_of_lt_of_le (Nat.le_of_ble_eq_true rfl) hn) ⟨by decide, by decide⟩ (Nat.le_of_ble_eq_true rfl) (fun x24 => ?_)
      refine J_istore_n 2 [(2, .int x24), (0, .ref 1), (1, .int x1)] dX2_takeDoor_150 rfl (by decide) rfl ?_
      refine J_aload_n 0 1 1 dX2_takeDoor_151 rfl rfl ?_
      refine J_getR 1 2 6 T dX2_takeDoor_152 fl_2_23 rfl rfl (Nat.lt_of_lt_of_le (Nat.le_of_ble_eq_true rfl) hn) rfl ?_
      refine J_getR T 1 13 (T + 10) dX2_takeDoor_155 fl_2_160 (layc_Pl_0 hT) rfl (lt_Pl_0 hT hn) (rf_Pl_0_13 hT) ?_
      refine J_iload_n 1 2 x1 dX2_takeDoor_158 rfl rfl ?_
      refine J_iload_n 2 0 x24 dX2_takeDoor_159 rfl rfl ?_
      refine J_seqJ 168 (fun y26 : Int32 => [(0, .ref 1), (2, .int x24)]) (fun y26 => [.int y26, .int x1, .ref (T + 10)]) (fun y26 => m23) (fun y26 => ?_) (fun k1 hEy26 => ?_)
      · refine J_iast (T + 10) 10 dX2_takeDoor_168 (lay_Pl_10 hT) (lt_Pl_10 hT hn) (fun m27 => ?_)
        refine J_iload_n 2 1 x24 dX2_takeDoor_169 rfl rfl ?_
        refine J_seqJ 177 (fun y28 : Mm => [(0, .ref 1)]) (fun y28 => []) (fun y28 => y28) (fun y28 => ?_) (fun k1 hEy28 => ?_)
        · refine J_aload_n 0 0 1 dX2_takeDoor_177 rfl rfl ?_
          refine J_getI 1 2 9 dX2_takeDoor_178 fl_2_36 rfl rfl (Nat.lt_of_lt_of_le (Nat.le_of_ble_eq_true rfl) hn) ?_
          refine J_iconst 4 dX2_takeDoor_181 (by decide) ?_
          refine J_seqJ 190 (fun y31 : Mm => [(0, .ref 1)]) (fun y31 => []) (fun y31 => y31) (fun y31 => ?_) (fun k1 hEy31 => ?_)
          · refine J_aload_n 0 0 1 dX2_takeDoor_190 rfl rfl ?_
            refine J_getR 1 2 6 T dX2_takeDoor_191 fl_2_23 rfl rfl (Nat.lt_of_lt_of_le (Nat.le_of_ble_eq_true rfl) hn) rfl ?_
            refine J_dup dX2_takeDoor_194 rfl ?_
            refine J_getI T 1 1 dX2_takeDoor_195 fl_2_140 (layc_Pl_0 hT) rfl (lt_Pl_0 hT hn) ?_
            refine J_iconst 1 dX2_takeDoor_198 (by decide) ?_
            refine J_iadd dX2_takeDoor_199 ?_
            refine J_putI T 1 1 dX2_takeDoor_200 fl_2_140 (layc_Pl_0 hT) rfl (lt_Pl_0 hT hn) rfl rfl rfl (fun m34 => ?_)
            exact J_vretV dX2_takeDoor_203 rfl rfl
          · refine J_icmp_eq 190 dX2_takeDoor_182 (by decide) ?_ ?_
            · exact J_lv [0] rfl (hEy31 y28)
            · refine J_aload_n 0 0 1 dX2_takeDoor_185 rfl rfl ?_
              refine J_iconst 2 dX2_takeDoor_186 (by decide) ?_
              refine J_callVV 1 2 1 [.int 2] dX2_takeDoor_187 mv_X2_refuse mv_X2_refusev lk_2_64 (ct_X2_refuse F hn P D (some T) y28 2) rfl rfl (by decide) rfl (Nat.lt_of_lt_of_le (Nat.le_of_ble_eq_true rfl) hn) ⟨by decide, by decide⟩ (Nat.le_of_ble_eq_true rfl) (fun m33 => ?_)
              exact J_lv [0] rfl (hEy31 m33)
        · refine J_if_eq 177 dX2_takeDoor_170 (by decide) ?_ ?_
          · exact J_lv [0] rfl (hEy28 m27)
          · refine J_aload_n 0 0 1 dX2_takeDoor_173 rfl rfl ?_
            refine J_callVV 1 2 0 [] dX2_takeDoor_174 mv_X2_nextToken mv_X2_nextTokenv lk_2_30 (ct_X2_nextToken F hn P D (some T) m27) rfl rfl (by decide) rfl (Nat.lt_of_lt_of_le (Nat.le_of_ble_eq_true rfl) hn) ⟨by decide, by decide⟩ (Nat.le_of_ble_eq_true rfl) (fun m30 => ?_)
            exact J_lv [0] rfl (hEy28 m30)
      · refine J_if_eq 167 dX2_takeDoor_160 (by decide) ?_ ?_
        · refine J_iconst 1 dX2_takeDoor_167 (by decide) ?_
          exact J_lv [1, 0] rfl (hEy26 1)
        · refine J_iconst 0 dX2_takeDoor_163 (by decide) ?_
          refine J_goto 168 dX2_takeDoor_164 (by decide) ?_
          exact J_lv [1, 0] rfl (hEy26 0)
    · refine J_icmp_ne 92 dX2_takeDoor_84 (by decide) ?_ ?_
      · exact J_lv [1, 0] rfl (hEy10 m7)
      · refine J_aload_n 0 1 1 dX2_takeDoor_87 rfl rfl ?_
        refine J_iconst 3 dX2_takeDoor_88 (by decide) ?_
        refine J_callVV 1 2 1 [.int 3] dX2_takeDoor_89 mv_X2_refuse mv_X2_refusev lk_2_64 (ct_X2_refuse F hn P D (some T) m7 3) rfl rfl (by decide) rfl (Nat.lt_of_lt_of_le (Nat.le_of_ble_eq_true rfl) hn) ⟨by decide, by decide⟩ (Nat.le_of_ble_eq_true rfl) (fun m12 => ?_)
        exact J_lv [1, 0] rfl (hEy10 m12)
  · refine J_aload_n 0 1 1 dX2_takeDoor_14 rfl rfl ?_
    refine J_iconst 5 dX2_takeDoor_15 (by decide) ?_
    refine J_callVV 1 2 1 [.int 5] dX2_takeDoor_16 mv_X2_refuse mv_X2_refusev lk_2_64 (ct_X2_refuse F hn P D (some T) m 5) rfl rfl (by decide) rfl (Nat.lt_of_lt_of_le (Nat.le_of_ble_eq_true rfl) hn) ⟨by decide, by decide⟩ (Nat.le_of_ble_eq_true rfl) (fun m36 => ?_)
    exact J_vretV dX2_takeDoor_19 rfl rfl
def f_X2_takeSign (F : Nat) (m : Mm) : Option (Mm) :=
  (f_X2_nextToken F m).bind fun m2 => if (m2 1 9) = (4 : Int32) then (some m2) else ((f_X2_refuse m2 2).bind fun m4 => some m4)
set_option maxHeartbeats 4000000 in
set_option maxRecDepth 100000 in
theorem ct_X2_takeSign (F : Nat) {n : Nat} (hn : 113 ≤ n) (P D : Nat) (T : Option Nat) (m : Mm)  : Ct yX2_takeSign cX2_takeSign 1 none 3 63 [.ref 1] n n m (RF P D T) (rV (RF P D T) (f_X2_takeSign F m)) := by
  refine Ct.ofV (own := RX2) (nm := "takeSign") [(0, .ref 1)] (by decide) (Nat.le_of_ble_eq_true rfl) rfl rfl rfl ?_
  unfold f_X2_takeSign
  refine J_aload_n 0 0 1 dX2_takeSign_0 rfl rfl ?_
  refine J_callVV 1 2 0 [] dX2_takeSign_1 mv_X2_nextToken mv_X2_nextTokenv lk_2_30 (ct_X2_nextToken F hn P D T m) rfl rfl (by decide) rfl (Nat.lt_of_lt_of_le (Nat.le_of_ble_eq_true rfl) hn) ⟨by decide, by decide⟩ (Nat.le_of_ble_eq_true rfl) (fun m2 => ?_)
  refine J_aload_n 0 0 1 dX2_takeSign_4 rfl rfl ?_
  refine J_getI 1 2 9 dX2_takeSign_5 fl_2_36 rfl rfl (Nat.lt_of_lt_of_le (Nat.le_of_ble_eq_true rfl) hn) ?_
  refine J_iconst 4 dX2_takeSign_8 (by decide) ?_
  refine J_icmp_eq 17 dX2_takeSign_9 (by decide) ?_ ?_
  · exact J_vretV dX2_takeSign_17 rfl rfl
  · refine J_aload_n 0 0 1 dX2_takeSign_12 rfl rfl ?_
    refine J_iconst 2 dX2_takeSign_13 (by decide) ?_
    refine J_callVV 1 2 1 [.int 2] dX2_takeSign_14 mv_X2_refuse mv_X2_refusev lk_2_64 (ct_X2_refuse F hn P D T m2 2) rfl rfl (by decide) rfl (Nat.lt_of_lt_of_le (Nat.le_of_ble_eq_true rfl) hn) ⟨by decide, by decide⟩ (Nat.le_of_ble_eq_true rfl) (fun m4 => ?_)
    exact J_vretV dX2_takeSign_17 rfl rfl
def f_X2_takeHold (F : Nat) (m : Mm) (T : Nat) : Option (Mm) :=
  letv (m T 0) fun x1 => if x1 < (8 : Int32) then (bind2 (f_X2_takeNumber F m 1 99) fun x2 m3 => (ast m3 (T + 1) 8 x1 x2).bind fun m4 => bind2 (f_X2_takeNumber F m4 0 2) fun x5 m6 => (ast m6 (T + 2) 8 x1 x5).bind fun m7 => bind2 (f_X2_takeNumber F m7 0 18) fun x8 m9 => (ast m9 (T + 3) 8 x1 x8).bind fun m10 => (ald m10 (T + 1) 8 x1).bind fun x11 => bind2 (f_X2_takeNumber F m10 0 x11) fun x12 m13 => (ast m13 (T + 4) 8 x1 x12).bind fun m14 => (f_X2_takeSign F m14).bind fun m16 => letv (up2 m16 T 0 ((m16 T 0) + (1 : Int32))) fun m17 => some m17) else ((f_X2_refuse m 5).bind fun m19 => some m19)
set_option maxHeartbeats 4000000 in
set_option maxRecDepth 100000 in
theorem ct_X2_takeHold (F : Nat) {n : Nat} (hn : 113 ≤ n) (P D : Nat) (T : Nat) (hT : isPl T) (m : Mm)  : Ct yX2_takeHold cX2_takeHold 2 none 4 87 [.ref 1] n n m (RF P D (some T)) (rV (RF P D (some T)) (f_X2_takeHold F m T)) := by
  refine Ct.ofV (own := RX2) (nm := "takeHold") [(0, .ref 1)] (by decide) (Nat.le_of_ble_eq_true rfl) rfl rfl rfl ?_
  unfold f_X2_takeHold
  refine J_aload_n 0 0 1 dX2_takeHold_0 rfl rfl ?_
  refine J_getR 1 2 6 T dX2_takeHold_1 fl_2_23 rfl rfl (Nat.lt_of_lt_of_le (Nat.le_of_ble_eq_true rfl) hn) rfl ?_
  refine J_getI T 1 0 dX2_takeHold_4 fl_2_59 (layc_Pl_0 hT) rfl (lt_Pl_0 hT hn) ?_
  refine J_let (fun x1 => ?_)
  refine J_istore_n 1 [(1, .int x1), (0, .ref 1)] dX2_takeHold_7 rfl (by decide) rfl ?_
  refine J_iload_n 1 0 x1 dX2_takeHold_8 rfl rfl ?_
  refine J_bipush 8 dX2_takeHold_9 (by decide) ?_
  refine J_icmp_lt 20 dX2_takeHold_11 (by decide) ?_ ?_
  · refine J_aload_n 0 1 1 dX2_takeHold_20 rfl rfl ?_
    refine J_getR 1 2 6 T dX2_takeHold_21 fl_2_23 rfl rfl (Nat.lt_of_lt_of_le (Nat.le_of_ble_eq_true rfl) hn) rfl ?_
    refine J_getR T 1 4 (T + 1) dX2_takeHold_24 fl_2_121 (layc_Pl_0 hT) rfl (lt_Pl_0 hT hn) (rf_Pl_0_4 hT) ?_
    refine J_iload_n 1 0 x1 dX2_takeHold_27 rfl rfl ?_
    refine J_aload_n 0 1 1 dX2_takeHold_28 rfl rfl ?_
    refine J_iconst 1 dX2_takeHold_29 (by decide) ?_
    refine J_bipush 99 dX2_takeHold_30 (by decide) ?_
    refine J_callVI 1 2 2 [.int 1, .int 99] dX2_takeHold_32 mv_X2_takeNumber mv_X2_takeNumberv lk_2_125 (ct_X2_takeNumber F hn P D (some T) m 1 99) rfl rfl (by decide) rfl (Nat.lt_of_lt_of_le (Nat.le_of_ble_eq_true rfl) hn) ⟨by decide, by decide⟩ (Nat.le_of_ble_eq_true rfl) (fun x2 m3 => ?_)
    refine J_iast (T + 1) 8 dX2_takeHold_35 (lay_Pl_1 hT) (lt_Pl_1 hT hn) (fun m4 => ?_)
    refine J_aload_n 0 1 1 dX2_takeHold_36 rfl rfl ?_
    refine J_getR 1 2 6 T dX2_takeHold_37 fl_2_23 rfl rfl (Nat.lt_of_lt_of_le (Nat.le_of_ble_eq_true rfl) hn) rfl ?_
    refine J_getR T 1 5 (T + 2) dX2_takeHold_40 fl_2_128 (layc_Pl_0 hT) rfl (lt_Pl_0 hT hn) (rf_Pl_0_5 hT) ?_
    refine J_iload_n 1 0 x1 dX2_takeHold_43 rfl rfl ?_
    refine J_aload_n 0 1 1 dX2_takeHold_44 rfl rfl ?_
    refine J_iconst 0 dX2_takeHold_45 (by decide) ?_
    refine J_iconst 2 dX2_takeHold_46 (by decide) ?_
    refine J_callVI 1 2 2 [.int 0, .int 2] dX2_takeHold_47 mv_X2_takeNumber mv_X2_takeNumberv lk_2_125 (ct_X2_takeNumber F hn P D (some T) m4 0 2) rfl rfl (by decide) rfl (Nat.lt_of_lt_of_le (Nat.le_of_ble_eq_true rfl) hn) ⟨by decide, by decide⟩ (Nat.le_of_ble_eq_true rfl) (fun x5 m6 => ?_)
    refine J_iast (T + 2) 8 dX2_takeHold_50 (lay_Pl_2 hT) (lt_Pl_2 hT hn) (fun m7 => ?_)
    refine J_aload_n 0 1 1 dX2_takeHold_51 rfl rfl ?_
    refine J_getR 1 2 6 T dX2_takeHold_52 fl_2_23 rfl rfl (Nat.lt_of_lt_of_le (Nat.le_of_ble_eq_true rfl) hn) rfl ?_
    refine J_getR T 1 6 (T + 3) dX2_takeHold_55 fl_2_131 (layc_Pl_0 hT) rfl (lt_Pl_0 hT hn) (rf_Pl_0_6 hT) ?_
    refine J_iload_n 1 0 x1 dX2_takeHold_58 rfl rfl ?_
    refine J_aload_n 0 1 1 dX2_takeHold_59 rfl rfl ?_
    refine J_iconst 0 dX2_takeHold_60 (by decide) ?_
    refine J_bipush 18 dX2_takeHold_61 (by decide) ?_
    refine J_callVI 1 2 2 [.int 0, .int 18] dX2_takeHold_63 mv_X2_takeNumber mv_X2_takeNumberv lk_2_125 (ct_X2_takeNumber F hn P D (some T) m7 0 18) rfl rfl (by decide) rfl (Nat.lt_of_lt_of_le (Nat.le_of_ble_eq_true rfl) hn) ⟨by decide, by decide⟩ (Nat.le_of_ble_eq_true rfl) (fun x8 m9 => ?_)
    refine J_iast (T + 3) 8 dX2_takeHold_66 (lay_Pl_3 hT) (lt_Pl_3 hT hn) (fun m10 => ?_)
    refine J_aload_n 0 1 1 dX2_takeHold_67 rfl rfl ?_
    refine J_getR 1 2 6 T dX2_takeHold_68 fl_2_23 rfl rfl (Nat.lt_of_lt_of_le (Nat.le_of_ble_eq_true rfl) hn) rfl ?_
    refine J_getR T 1 7 (T + 4) dX2_takeHold_71 fl_2_134 (layc_Pl_0 hT) rfl (lt_Pl_0 hT hn) (rf_Pl_0_7 hT) ?_
    refine J_iload_n 1 0 x1 dX2_takeHold_74 rfl rfl ?_
    refine J_aload_n 0 1 1 dX2_takeHold_75 rfl rfl ?_
    refine J_iconst 0 dX2_takeHold_76 (by decide) ?_
    refine J_aload_n 0 1 1 dX2_takeHold_77 rfl rfl ?_
    refine J_getR 1 2 6 T dX2_takeHold_78 fl_2_23 rfl rfl (Nat.lt_of_lt_of_le (Nat.le_of_ble_eq_true rfl) hn) rfl ?_
    refine J_getR T 1 4 (T + 1) dX2_takeHold_81 fl_2_121 (layc_Pl_0 hT) rfl (lt_Pl_0 hT hn) (rf_Pl_0_4 hT) ?_
    refine J_iload_n 1 0 x1 dX2_takeHold_84 rfl rfl ?_
    refine J_iald (T + 1) 8 dX2_takeHold_85 (lay_Pl_1 hT) (lt_Pl_1 hT hn) (fun x11 => ?_)
    refine J_callVI 1 2 2 [.int 0, .int x11] dX2_takeHold_86 mv_X2_takeNumber mv_X2_takeNumberv lk_2_125 (ct_X2_takeNumber F hn P D (some T) m10 0 x11) rfl rfl (by decide) rfl (Nat.lt_of_lt_of_le (Nat.le_of_ble_eq_true rfl) hn) ⟨by decide, by decide⟩ (Nat.le_of_ble_eq_true rfl) (fun x12 m13 => ?_)
    refine J_iast (T + 4) 8 dX2_takeHold_89 (lay_Pl_4 hT) (lt_Pl_4 hT hn) (fun m14 => ?_)
    refine J_aload_n 0 1 1 dX2_takeHold_90 rfl rfl ?_
    refine J_callVV 1 2 0 [] dX2_takeHold_91 mv_X2_takeSign mv_X2_takeSignv lk_2_137 (ct_X2_takeSign F hn P D (some T) m14) rfl rfl (by decide) rfl (Nat.lt_of_lt_of_le (Nat.le_of_ble_eq_true rfl) hn) ⟨by decide, by decide⟩ (Nat.le_of_ble_eq_true rfl) (fun m16 => ?_)
    refine J_aload_n 0 1 1 dX2_takeHold_94 rfl rfl ?_
    refine J_getR 1 2 6 T dX2_takeHold_95 fl_2_23 rfl rfl (Nat.lt_of_lt_of_le (Nat.le_of_ble_eq_true rfl) hn) rfl ?_
    refine J_dup dX2_takeHold_98 rfl ?_
    refine J_getI T 1 0 dX2_takeHold_99 fl_2_59 (layc_Pl_0 hT) rfl (lt_Pl_0 hT hn) ?_
    refine J_iconst 1 dX2_takeHold_102 (by decide) ?_
    refine J_iadd dX2_takeHold_103 ?_
    refine J_putI T 1 0 dX2_takeHold_104 fl_2_59 (layc_Pl_0 hT) rfl (lt_Pl_0 hT hn) rfl rfl rfl (fun m17 => ?_)
    exact J_vretV dX2_takeHold_107 rfl rfl
  · refine J_aload_n 0 1 1 dX2_takeHold_14 rfl rfl ?_
    refine J_iconst 5 dX2_takeHold_15 (by decide) ?_
    refine J_callVV 1 2 1 [.int 5] dX2_takeHold_16 mv_X2_refuse mv_X2_refusev lk_2_64 (ct_X2_refuse F hn P D (some T) m 5) rfl rfl (by decide) rfl (Nat.lt_of_lt_of_le (Nat.le_of_ble_eq_true rfl) hn) ⟨by decide, by decide⟩ (Nat.le_of_ble_eq_true rfl) (fun m19 => ?_)
    exact J_vretV dX2_takeHold_19 rfl rfl
def f_X2_takeHole (F : Nat) (m : Mm) (T : Nat) : Option (Mm) :=
  letv (m T 2) fun x1 => if x1 < (4 : Int32) then (bind2 (f_X2_takeNumber F m 0 ((m T 0) - (1 : Int32))) fun x2 m3 => (ast m3 (T + 11) 4 x1 x2).bind fun m4 => bind2 (f_X2_takeNumber F m4 1 20) fun x5 m6 => (ast m6 (T + 12) 4 x1 x5).bind fun m7 => bind2 (f_X2_takeNumber F m7 1 20) fun x8 m9 => (ast m9 (T + 13) 4 x1 x8).bind fun m10 => (f_X2_takeSign F m10).bind fun m12 => letv (up2 m12 T 2 ((m12 T 2) + (1 : Int32))) fun m13 => some m13) else ((f_X2_refuse m 5).bind fun m15 => some m15)
set_option maxHeartbeats 4000000 in
set_option maxRecDepth 100000 in
theorem ct_X2_takeHole (F : Nat) {n : Nat} (hn : 113 ≤ n) (P D : Nat) (T : Nat) (hT : isPl T) (m : Mm)  : Ct yX2_takeHole cX2_takeHole 2 none 4 87 [.ref 1] n n m (RF P D (some T)) (rV (RF P D (some T)) (f_X2_takeHole F m T)) := by
  refine Ct.ofV (own := RX2) (nm := "takeHole") [(0, .ref 1)] (by decide) (Nat.le_of_ble_eq_true rfl) rfl rfl rfl ?_
  unfold f_X2_takeHole
  refine J_aload_n 0 0 1 dX2_takeHole_0 rfl rfl ?_
  refine J_getR 1 2 6 T dX2_takeHole_1 fl_2_23 rfl rfl (Nat.lt_of_lt_of_le (Nat.le_of_ble_eq_true rfl) hn) rfl ?_
  refine J_getI T 1 2 dX2_takeHole_4 fl_2_163 (layc_Pl_0 hT) rfl (lt_Pl_0 hT hn) ?_
  refine J_let (fun x1 => ?_)
  refine J_istore_n 1 [(1, .int x1), (0, .ref 1)] dX2_takeHole_7 rfl (by decide) rfl ?_
  refine J_iload_n 1 0 x1 dX2_takeHole_8 rfl rfl ?_
  refine J_iconst 4 dX2_takeHole_9 (by decide) ?_
  refine J_icmp_lt 19 dX2_takeHole_10 (by decide) ?_ ?_
  · refine J_aload_n 0 1 1 dX2_takeHole_19 rfl rfl ?_
    refine J_getR 1 2 6 T dX2_takeHole_20 fl_2_23 rfl rfl (Nat.lt_of_lt_of_le (Nat.le_of_ble_eq_true rfl) hn) rfl ?_
    refine J_getR T 1 14 (T + 11) dX2_takeHole_23 fl_2_166 (layc_Pl_0 hT) rfl (lt_Pl_0 hT hn) (rf_Pl_0_14 hT) ?_
    refine J_iload_n 1 0 x1 dX2_takeHole_26 rfl rfl ?_
    refine J_aload_n 0 1 1 dX2_takeHole_27 rfl rfl ?_
    refine J_iconst 0 dX2_takeHole_28 (by decide) ?_
    refine J_aload_n 0 1 1 dX2_takeHole_29 rfl rfl ?_
    refine J_getR 1 2 6 T dX2_takeHole_30 fl_2_23 rfl rfl (Nat.lt_of_lt_of_le (Nat.le_of_ble_eq_true rfl) hn) rfl ?_
    refine J_getI T 1 0 dX2_takeHole_33 fl_2_59 (layc_Pl_0 hT) rfl (lt_Pl_0 hT hn) ?_
    refine J_iconst 1 dX2_takeHole_36 (by decide) ?_
    refine J_isub dX2_takeHole_37 ?_
    refine J_callVI 1 2 2 [.int 0, .int ((m T 0) - (1 : Int32))] dX2_takeHole_38 mv_X2_takeNumber mv_X2_takeNumberv lk_2_125 (ct_X2_takeNumber F hn P D (some T) m 0 ((m T 0) - (1 : Int32))) rfl rfl (by decide) rfl (Nat.lt_of_lt_of_le (Nat.le_of_ble_eq_true rfl) hn) ⟨by decide, by decide⟩ (Nat.le_of_ble_eq_true rfl) (fun x2 m3 => ?_)
    refine J_iast (T + 11) 4 dX2_takeHole_41 (lay_Pl_11 hT) (lt_Pl_11 hT hn) (fun m4 => ?_)
    refine J_aload_n 0 1 1 dX2_takeHole_42 rfl rfl ?_
    refine J_getR 1 2 6 T dX2_takeHole_43 fl_2_23 rfl rfl (Nat.lt_of_lt_of_le (Nat.le_of_ble_eq_true rfl) hn) rfl ?_
    refine J_getR T 1 15 (T + 12) dX2_takeHole_46 fl_2_169 (layc_Pl_0 hT) rfl (lt_Pl_0 hT hn) (rf_Pl_0_15 hT) ?_
    refine J_iload_n 1 0 x1 dX2_takeHole_49 rfl rfl ?_
    refine J_aload_n 0 1 1 dX2_takeHole_50 rfl rfl ?_
    refine J_iconst 1 dX2_takeHole_51 (by decide) ?_
    refine J_bipush 20 dX2_takeHole_52 (by decide) ?_
    refine J_callVI 1 2 2 [.int 1, .int 20] dX2_takeHole_54 mv_X2_takeNumber mv_X2_takeNumberv lk_2_125 (ct_X2_takeNumber F hn P D (some T) m4 1 20) rfl rfl (by decide) rfl (Nat.lt_of_lt_of_le (Nat.le_of_ble_eq_true rfl) hn) ⟨by decide, by decide⟩ (Nat.le_of_ble_eq_true rfl) (fun x5 m6 => ?_)
    refine J_iast (T + 12) 4 dX2_takeHole_57 (lay_Pl_12 hT) (lt_Pl_12 hT hn) (fun m7 => ?_)
    refine J_aload_n 0 1 1 dX2_takeHole_58 rfl rfl ?_
    refine J_getR 1 2 6 T dX2_takeHole_59 fl_2_23 rfl rfl (Nat.lt_of_lt_of_le (Nat.le_of_ble_eq_true rfl) hn) rfl ?_
    refine J_getR T 1 16 (T + 13) dX2_takeHole_62 fl_2_172 (layc_Pl_0 hT) rfl (lt_Pl_0 hT hn) (rf_Pl_0_16 hT) ?_
    refine J_iload_n 1 0 x1 dX2_takeHole_65 rfl rfl ?_
    refine J_aload_n 0 1 1 dX2_takeHole_66 rfl rfl ?_
    refine J_iconst 1 dX2_takeHole_67 (by decide) ?_
    refine J_bipush 20 dX2_takeHole_68 (by decide) ?_
    refine J_callVI 1 2 2 [.int 1, .int 20] dX2_takeHole_70 mv_X2_takeNumber mv_X2_takeNumberv lk_2_125 (ct_X2_takeNumber F hn P D (some T) m7 1 20) rfl rfl (by decide) rfl (Nat.lt_of_lt_of_le (Nat.le_of_ble_eq_true rfl) hn) ⟨by decide, by decide⟩ (Nat.le_of_ble_eq_true rfl) (fun x8 m9 => ?_)
    refine J_iast (T + 13) 4 dX2_takeHole_73 (lay_Pl_13 hT) (lt_Pl_13 hT hn) (fun m10 => ?_)
    refine J_aload_n 0 1 1 dX2_takeHole_74 rfl rfl ?_
    refine J_callVV 1 2 0 [] dX2_takeHole_75 mv_X2_takeSign mv_X2_takeSignv lk_2_137 (ct_X2_takeSign F hn P D (some T) m10) rfl rfl (by decide) rfl (Nat.lt_of_lt_of_le (Nat.le_of_ble_eq_true rfl) hn) ⟨by decide, by decide⟩ (Nat.le_of_ble_eq_true rfl) (fun m12 => ?_)
    refine J_aload_n 0 1 1 dX2_takeHole_78 rfl rfl ?_
    refine J_getR 1 2 6 T dX2_takeHole_79 fl_2_23 rfl rfl (Nat.lt_of_lt_of_le (Nat.le_of_ble_eq_true rfl) hn) rfl ?_
    refine J_dup dX2_takeHole_82 rfl ?_
    refine J_getI T 1 2 dX2_takeHole_83 fl_2_163 (layc_Pl_0 hT) rfl (lt_Pl_0 hT hn) ?_
    refine J_iconst 1 dX2_takeHole_86 (by decide) ?_
    refine J_iadd dX2_takeHole_87 ?_
    refine J_putI T 1 2 dX2_takeHole_88 fl_2_163 (layc_Pl_0 hT) rfl (lt_Pl_0 hT hn) rfl rfl rfl (fun m13 => ?_)
    exact J_vretV dX2_takeHole_91 rfl rfl
  · refine J_aload_n 0 1 1 dX2_takeHole_13 rfl rfl ?_
    refine J_iconst 5 dX2_takeHole_14 (by decide) ?_
    refine J_callVV 1 2 1 [.int 5] dX2_takeHole_15 mv_X2_refuse mv_X2_refusev lk_2_64 (ct_X2_refuse F hn P D (some T) m 5) rfl rfl (by decide) rfl (Nat.lt_of_lt_of_le (Nat.le_of_ble_eq_true rfl) hn) ⟨by decide, by decide⟩ (Nat.le_of_ble_eq_true rfl) (fun m15 => ?_)
    exact J_vretV dX2_takeHole_18 rfl rfl
def f_X2_takePump (F : Nat) (m : Mm) (T : Nat) : Option (Mm) :=
  letv (m T 3) fun x1 => if x1 < (3 : Int32) then (bind2 (f_X2_takeNumber F m 1 9) fun x2 m3 => (ast m3 (T + 14) 3 x1 x2).bind fun m4 => bind2 (f_X2_takeNumber F m4 0 ((m4 T 0) - (1 : Int32))) fun x5 m6 => (ast m6 (T + 15) 3 x1 x5).bind fun m7 => (f_X2_takeSign F m7).bind fun m9 => letv (up2 m9 T 3 ((m9 T 3) + (1 : Int32))) fun m10 => some m10) else ((f_X2_refuse m 5).bind fun m12 => some m12)
set_option maxHeartbeats 4000000 in
set_option maxRecDepth 100000 in
theorem ct_X2_takePump (F : Nat) {n : Nat} (hn : 113 ≤ n) (P D : Nat) (T : Nat) (hT : isPl T) (m : Mm)  : Ct yX2_takePump cX2_takePump 2 none 4 87 [.ref 1] n n m (RF P D (some T)) (rV (RF P D (some T)) (f_X2_takePump F m T)) := by
  refine Ct.ofV (own := RX2) (nm := "takePump") [(0, .ref 1)] (by decide) (Nat.le_of_ble_eq_true rfl) rfl rfl rfl ?_
  unfold f_X2_takePump
  refine J_aload_n 0 0 1 dX2_takePump_0 rfl rfl ?_
  refine J_getR 1 2 6 T dX2_takePump_1 fl_2_23 rfl rfl (Nat.lt_of_lt_of_le (Nat.le_of_ble_eq_true rfl) hn) rfl ?_
  refine J_getI T 1 3 dX2_takePump_4 fl_2_175 (layc_Pl_0 hT) rfl (lt_Pl_0 hT hn) ?_
  refine J_let (fun x1 => ?_)
  refine J_istore_n 1 [(1, .int x1), (0, .ref 1)] dX2_takePump_7 rfl (by decide) rfl ?_
  refine J_iload_n 1 0 x1 dX2_takePump_8 rfl rfl ?_
  refine J_iconst 3 dX2_takePump_9 (by decide) ?_
  refine J_icmp_lt 19 dX2_takePump_10 (by decide) ?_ ?_
  · refine J_aload_n 0 1 1 dX2_takePump_19 rfl rfl ?_
    refine J_getR 1 2 6 T dX2_takePump_20 fl_2_23 rfl rfl (Nat.lt_of_lt_of_le (Nat.le_of_ble_eq_true rfl) hn) rfl ?_
    refine J_getR T 1 17 (T + 14) dX2_takePump_23 fl_2_178 (layc_Pl_0 hT) rfl (lt_Pl_0 hT hn) (rf_Pl_0_17 hT) ?_
    refine J_iload_n 1 0 x1 dX2_takePump_26 rfl rfl ?_
    refine J_aload_n 0 1 1 dX2_takePump_27 rfl rfl ?_
    refine J_iconst 1 dX2_takePump_28 (by decide) ?_
    refine J_bipush 9 dX2_takePump_29 (by decide) ?_
    refine J_callVI 1 2 2 [.int 1, .int 9] dX2_takePump_31 mv_X2_takeNumber mv_X2_takeNumberv lk_2_125 (ct_X2_takeNumber F hn P D (some T) m 1 9) rfl rfl (by decide) rfl (Nat.lt_of_lt_of_le (Nat.le_of_ble_eq_true rfl) hn) ⟨by decide, by decide⟩ (Nat.le_of_ble_eq_true rfl) (fun x2 m3 => ?_)
    refine J_iast (T + 14) 3 dX2_takePump_34 (lay_Pl_14 hT) (lt_Pl_14 hT hn) (fun m4 => ?_)
    refine J_aload_n 0 1 1 dX2_takePump_35 rfl rfl ?_
    refine J_getR 1 2 6 T dX2_takePump_36 fl_2_23 rfl rfl (Nat.lt_of_lt_of_le (Nat.le_of_ble_eq_true rfl) hn) rfl ?_
    refine J_getR T 1 18 (T + 15) dX2_takePump_39 fl_2_181 (layc_Pl_0 hT) rfl (lt_Pl_0 hT hn) (rf_Pl_0_18 hT) ?_
    refine J_iload_n 1 0 x1 dX2_takePump_42 rfl rfl ?_
    refine J_aload_n 0 1 1 dX2_takePump_43 rfl rfl ?_
    refine J_iconst 0 dX2_takePump_44 (by decide) ?_
    refine J_aload_n 0 1 1 dX2_takePump_45 rfl rfl ?_
    refine J_getR 1 2 6 T dX2_takePump_46 fl_2_23 rfl rfl (Nat.lt_of_lt_of_le (Nat.le_of_ble_eq_true rfl) hn) rfl ?_
    refine J_getI T 1 0 dX2_takePump_49 fl_2_59 (layc_Pl_0 hT) rfl (lt_Pl_0 hT hn) ?_
    refine J_iconst 1 dX2_takePump_52 (by decide) ?_
    refine J_isub dX2_takePump_53 ?_
    refine J_callVI 1 2 2 [.int 0, .int ((m4 T 0) - (1 : Int32))] dX2_takePump_54 mv_X2_takeNumber mv_X2_takeNumberv lk_2_125 (ct_X2_takeNumber F hn P D (some T) m4 0 ((m4 T 0) - (1 : Int32))) rfl rfl (by decide) rfl (Nat.lt_of_lt_of_le (Nat.le_of_ble_eq_true rfl) hn) ⟨by decide, by decide⟩ (Nat.le_of_ble_eq_true rfl) (fun x5 m6 => ?_)
    refine J_iast (T + 15) 3 dX2_takePump_57 (lay_Pl_15 hT) (lt_Pl_15 hT hn) (fun m7 => ?_)
    refine J_aload_n 0 1 1 dX2_takePump_58 rfl rfl ?_
    refine J_callVV 1 2 0 [] dX2_takePump_59 mv_X2_takeSign mv_X2_takeSignv lk_2_137 (ct_X2_takeSign F hn P D (some T) m7) rfl rfl (by decide) rfl (Nat.lt_of_lt_of_le (Nat.le_of_ble_eq_true rfl) hn) ⟨by decide, by decide⟩ (Nat.le_of_ble_eq_true rfl) (fun m9 => ?_)
    refine J_aload_n 0 1 1 dX2_takePump_62 rfl rfl ?_
    refine J_getR 1 2 6 T dX2_takePump_63 fl_2_23 rfl rfl (Nat.lt_of_lt_of_le (Nat.le_of_ble_eq_true rfl) hn) rfl ?_
    refine J_dup dX2_takePump_66 rfl ?_
    refine J_getI T 1 3 dX2_takePump_67 fl_2_175 (layc_Pl_0 hT) rfl (lt_Pl_0 hT hn) ?_
    refine J_iconst 1 dX2_takePump_70 (by decide) ?_
    refine J_iadd dX2_takePump_71 ?_
    refine J_putI T 1 3 dX2_takePump_72 fl_2_175 (layc_Pl_0 hT) rfl (lt_Pl_0 hT hn) rfl rfl rfl (fun m10 => ?_)
    exact J_vretV dX2_takePump_75 rfl rfl
  · refine J_aload_n 0 1 1 dX2_takePump_13 rfl rfl ?_
    refine J_iconst 5 dX2_takePump_14 (by decide) ?_
    refine J_callVV 1 2 1 [.int 5] dX2_takePump_15 mv_X2_refuse mv_X2_refusev lk_2_64 (ct_X2_refuse F hn P D (some T) m 5) rfl rfl (by decide) rfl (Nat.lt_of_lt_of_le (Nat.le_of_ble_eq_true rfl) hn) ⟨by decide, by decide⟩ (Nat.le_of_ble_eq_true rfl) (fun m12 => ?_)
    exact J_vretV dX2_takePump_18 rfl rfl
def f_X2_takeRule (F : Nat) (m : Mm) (T : Nat) (a1 : Int32) (a2 : Int32) (a3 : Int32) : Option (Mm) :=
  (ald m 3 5 a1).bind fun x1 => if x1 = 0 then ((ast m 3 5 a1 (vp_nar .boolean 1)).bind fun m2 => bind2 (f_X2_takeNumber F m2 a2 a3) fun x3 m4 => (ast m4 (T + 16) 5 a1 x3).bind fun m5 => (f_X2_takeSign F m5).bind fun m7 => some m7) else ((f_X2_refuse m 4).bind fun m9 => some m9)
set_option maxHeartbeats 4000000 in
set_option maxRecDepth 100000 in
theorem ct_X2_takeRule (F : Nat) {n : Nat} (hn : 113 ≤ n) (P D : Nat) (T : Nat) (hT : isPl T) (m : Mm) (a1 : Int32) (a2 : Int32) (a3 : Int32) : Ct yX2_takeRule cX2_takeRule 4 none 4 87 [.ref 1, .int a1, .int a2, .int a3] n n m (RF P D (some T)) (rV (RF P D (some T)) (f_X2_takeRule F m T a1 a2 a3)) := by
  refine Ct.ofV (own := RX2) (nm := "takeRule") [(0, .ref 1), (1, .int a1), (2, .int a2), (3, .int a3)] (by decide) (Nat.le_of_ble_eq_true rfl) rfl rfl rfl ?_
  unfold f_X2_takeRule
  refine J_aload_n 0 0 1 dX2_takeRule_0 rfl rfl ?_
  refine J_getR 1 2 5 3 dX2_takeRule_1 fl_2_15 rfl rfl (Nat.lt_of_lt_of_le (Nat.le_of_ble_eq_true rfl) hn) rfl ?_
  refine J_iload_n 1 1 a1 dX2_takeRule_4 rfl rfl ?_
  refine J_zald 3 5 dX2_takeRule_5 rfl (Nat.lt_of_lt_of_le (Nat.le_of_ble_eq_true rfl) hn) (fun x1 => ?_)
  refine J_if_eq 15 dX2_takeRule_6 (by decide) ?_ ?_
  · refine J_aload_n 0 0 1 dX2_takeRule_15 rfl rfl ?_
    refine J_getR 1 2 5 3 dX2_takeRule_16 fl_2_15 rfl rfl (Nat.lt_of_lt_of_le (Nat.le_of_ble_eq_true rfl) hn) rfl ?_
    refine J_iload_n 1 1 a1 dX2_takeRule_19 rfl rfl ?_
    refine J_iconst 1 dX2_takeRule_20 (by decide) ?_
    refine J_zast 3 5 dX2_takeRule_21 rfl (Nat.lt_of_lt_of_le (Nat.le_of_ble_eq_true rfl) hn) (fun m2 => ?_)
    refine J_aload_n 0 0 1 dX2_takeRule_22 rfl rfl ?_
    refine J_getR 1 2 6 T dX2_takeRule_23 fl_2_23 rfl rfl (Nat.lt_of_lt_of_le (Nat.le_of_ble_eq_true rfl) hn) rfl ?_
    refine J_getR T 1 19 (T + 16) dX2_takeRule_26 fl_2_184 (layc_Pl_0 hT) rfl (lt_Pl_0 hT hn) (rf_Pl_0_19 hT) ?_
    refine J_iload_n 1 1 a1 dX2_takeRule_29 rfl rfl ?_
    refine J_aload_n 0 0 1 dX2_takeRule_30 rfl rfl ?_
    refine J_iload_n 2 2 a2 dX2_takeRule_31 rfl rfl ?_
    refine J_iload_n 3 3 a3 dX2_takeRule_32 rfl rfl ?_
    refine J_callVI 1 2 2 [.int a2, .int a3] dX2_takeRule_33 mv_X2_takeNumber mv_X2_takeNumberv lk_2_125 (ct_X2_takeNumber F hn P D (some T) m2 a2 a3) rfl rfl (by decide) rfl (Nat.lt_of_lt_of_le (Nat.le_of_ble_eq_true rfl) hn) ⟨by decide, by decide⟩ (Nat.le_of_ble_eq_true rfl) (fun x3 m4 => ?_)
    refine J_iast (T + 16) 5 dX2_takeRule_36 (lay_Pl_16 hT) (lt_Pl_16 hT hn) (fun m5 => ?_)
    refine J_aload_n 0 0 1 dX2_takeRule_37 rfl rfl ?_
    refine J_callVV 1 2 0 [] dX2_takeRule_38 mv_X2_takeSign mv_X2_takeSignv lk_2_137 (ct_X2_takeSign F hn P D (some T) m5) rfl rfl (by decide) rfl (Nat.lt_of_lt_of_le (Nat.le_of_ble_eq_true rfl) hn) ⟨by decide, by decide⟩ (Nat.le_of_ble_eq_true rfl) (fun m7 => ?_)
    exact J_vretV dX2_takeRule_41 rfl rfl
  · refine J_aload_n 0 0 1 dX2_takeRule_9 rfl rfl ?_
    refine J_iconst 4 dX2_takeRule_10 (by decide) ?_
    refine J_callVV 1 2 1 [.int 4] dX2_takeRule_11 mv_X2_refuse mv_X2_refusev lk_2_64 (ct_X2_refuse F hn P D (some T) m 4) rfl rfl (by decide) rfl (Nat.lt_of_lt_of_le (Nat.le_of_ble_eq_true rfl) hn) ⟨by decide, by decide⟩ (Nat.le_of_ble_eq_true rfl) (fun m9 => ?_)
    exact J_vretV dX2_takeRule_14 rfl rfl

theorem fl_3_15 : FL RX3 15 1 0 := ⟨by decide, by decide, tb 253 (by decide +kernel) rfl⟩
theorem fl_3_20 : FL RX3 20 1 4 := ⟨by decide, by decide, tb 272 (by decide +kernel) rfl⟩
theorem fl_3_24 : FL RX3 24 1 5 := ⟨by decide, by decide, tb 277 (by decide +kernel) rfl⟩
theorem fl_3_27 : FL RX3 27 1 6 := ⟨by decide, by decide, tb 281 (by decide +kernel) rfl⟩
theorem fl_3_36 : FL RX3 36 3 1 := ⟨by decide, by decide, tb 128 (by decide +kernel) rfl⟩
theorem fl_3_39 : FL RX3 39 3 2 := ⟨by decide, by decide, tb 131 (by decide +kernel) rfl⟩
theorem fl_3_42 : FL RX3 42 1 19 := ⟨by decide, by decide, tb 328 (by decide +kernel) rfl⟩
theorem fl_3_9 : FL RX3 9 3 0 := ⟨by decide, by decide, tb 125 (by decide +kernel) rfl⟩
theorem fl_4_15 : FL RX4 15 4 3 := ⟨by decide, by decide, tb 200 (by decide +kernel) rfl⟩
theorem fl_4_18 : FL RX4 18 4 4 := ⟨by decide, by decide, tb 201 (by decide +kernel) rfl⟩
theorem fl_4_32 : FL RX4 32 4 6 := ⟨by decide, by decide, tb 203 (by decide +kernel) rfl⟩
theorem fl_4_9 : FL RX4 9 4 2 := ⟨by decide, by decide, tb 199 (by decide +kernel) rfl⟩
theorem fl_8_148 : FL RX8 148 1 12 := ⟨by decide, by decide, tb 304 (by decide +kernel) rfl⟩
theorem fl_8_172 : FL RX8 172 1 16 := ⟨by decide, by decide, tb 318 (by decide +kernel) rfl⟩
theorem lk_2_27 : Cond.methodLink RX2 27 yX2_startAnew ∈ TBg := tb 485 (by decide +kernel) rfl
theorem lk_2_39 : Cond.methodLink RX2 39 yX2_lineBegun ∈ TBg := tb 505 (by decide +kernel) rfl
theorem lk_2_43 : Cond.methodLink RX2 43 yX2_takeHold ∈ TBg := tb 570 (by decide +kernel) rfl
theorem lk_2_46 : Cond.methodLink RX2 46 yX2_takeDoor ∈ TBg := tb 582 (by decide +kernel) rfl
theorem lk_2_49 : Cond.methodLink RX2 49 yX2_takeHole ∈ TBg := tb 587 (by decide +kernel) rfl
theorem lk_2_52 : Cond.methodLink RX2 52 yX2_takePump ∈ TBg := tb 591 (by decide +kernel) rfl
theorem lk_2_55 : Cond.methodLink RX2 55 yX2_takeRule ∈ TBg := tb 595 (by decide +kernel) rfl
theorem lk_3_30 : Cond.methodLink RX3 30 Lib.Math.abs.name ∈ TBg := tb 414 (by decide +kernel) rfl
theorem mv_X2_lineBegun : MV yX2_lineBegun cX2_lineBegun 1 (some .int) 0 := ⟨tb 508 (by decide +kernel) rfl, tb 2 (by decide +kernel) rfl, by decide +kernel⟩
theorem mv_X2_lineBegunv : Cond.instanceMethod yX2_lineBegun ∈ TBg ∧ Cond.selects yX2_lineBegun.cls yX2_lineBegun yX2_lineBegun ∈ TBg := ⟨tb 507 (by decide +kernel) rfl, tbP (k := 10) 4 (by decide +kernel) rfl⟩
theorem mv_X2_startAnew : MV yX2_startAnew cX2_startAnew 2 none 0 := ⟨tb 488 (by decide +kernel) rfl, tb 2 (by decide +kernel) rfl, by decide +kernel⟩
theorem mv_X2_startAnewv : Cond.instanceMethod yX2_startAnew ∈ TBg ∧ Cond.selects yX2_startAnew.cls yX2_startAnew yX2_startAnew ∈ TBg := ⟨tb 487 (by decide +kernel) rfl, tbP (k := 10) 0 (by decide +kernel) rfl⟩
theorem mv_X2_takeDoor : MV yX2_takeDoor cX2_takeDoor 3 none 0 := ⟨tb 585 (by decide +kernel) rfl, tb 2 (by decide +kernel) rfl, by decide +kernel⟩
theorem mv_X2_takeDoorv : Cond.instanceMethod yX2_takeDoor ∈ TBg ∧ Cond.selects yX2_takeDoor.cls yX2_takeDoor yX2_takeDoor ∈ TBg := ⟨tb 584 (by decide +kernel) rfl, tbP (k := 10) 9 (by decide +kernel) rfl⟩
theorem mv_X2_takeHold : MV yX2_takeHold cX2_takeHold 2 none 0 := ⟨tb 573 (by decide +kernel) rfl, tb 2 (by decide +kernel) rfl, by decide +kernel⟩
theorem mv_X2_takeHoldv : Cond.instanceMethod yX2_takeHold ∈ TBg ∧ Cond.selects yX2_takeHold.cls yX2_takeHold yX2_takeHold ∈ TBg := ⟨tb 572 (by decide +kernel) rfl, tbP (k := 10) 6 (by decide +kernel) rfl⟩
theorem mv_X2_takeHole : MV yX2_takeHole cX2_takeHole 2 none 0 := ⟨tb 590 (by decide +kernel) rfl, tb 2 (by decide +kernel) rfl, by decide +kernel⟩
theorem mv_X2_takeHolev : Cond.instanceMethod yX2_takeHole ∈ TBg ∧ Cond.selects yX2_takeHole.cls yX2_takeHole yX2_takeHole ∈ TBg := ⟨tb 589 (by decide +kernel) rfl, tbP (k := 10) 10 (by decide +kernel) rfl⟩
theorem mv_X2_takePump : MV yX2_takePump cX2_takePump 2 none 0 := ⟨tb 594 (by decide +kernel) rfl, tb 2 (by decide +kernel) rfl, by decide +kernel⟩
theorem mv_X2_takePumpv : Cond.instanceMethod yX2_takePump ∈ TBg ∧ Cond.selects yX2_takePump.cls yX2_takePump yX2_takePump ∈ TBg := ⟨tb 593 (by decide +kernel) rfl, tbP (k := 10) 11 (by decide +kernel) rfl⟩
theorem mv_X2_takeRule : MV yX2_takeRule cX2_takeRule 4 none 3 := ⟨tb 598 (by decide +kernel) rfl, tb 2 (by decide +kernel) rfl, by decide +kernel⟩
theorem mv_X2_takeRulev : Cond.instanceMethod yX2_takeRule ∈ TBg ∧ Cond.selects yX2_takeRule.cls yX2_takeRule yX2_takeRule ∈ TBg := ⟨tb 597 (by decide +kernel) rfl, tbP (k := 10) 12 (by decide +kernel) rfl⟩
theorem dX2_parse_0 : decode cX2_parse 0 = .ok (.aload_n 0, 1) := by decide +kernel
theorem dX2_parse_1 : decode cX2_parse 1 = .ok (.aload_n 1, 1) := by decide +kernel
theorem dX2_parse_2 : decode cX2_parse 2 = .ok (.putfield 23, 3) := by decide +kernel
theorem dX2_parse_5 : decode cX2_parse 5 = .ok (.aload_n 0, 1) := by decide +kernel
theorem dX2_parse_6 : decode cX2_parse 6 = .ok (.invokevirtual 27, 3) := by decide +kernel
theorem dX2_parse_9 : decode cX2_parse 9 = .ok (.iconst 0, 1) := by decide +kernel
theorem dX2_parse_10 : decode cX2_parse 10 = .ok (.istore_n 2, 1) := by decide +kernel
theorem dX2_parse_11 : decode cX2_parse 11 = .ok (.iload_n 2, 1) := by decide +kernel
theorem dX2_parse_12 : decode cX2_parse 12 = .ok (.sipush 400, 3) := by decide +kernel
theorem dX2_parse_15 : decode cX2_parse 15 = .ok (.if_icmp .gt 188, 3) := by decide +kernel
theorem dX2_parse_18 : decode cX2_parse 18 = .ok (.aload_n 0, 1) := by decide +kernel
theorem dX2_parse_19 : decode cX2_parse 19 = .ok (.invokevirtual 30, 3) := by decide +kernel
theorem dX2_parse_22 : decode cX2_parse 22 = .ok (.aload_n 0, 1) := by decide +kernel
theorem dX2_parse_23 : decode cX2_parse 23 = .ok (.getfield 33, 3) := by decide +kernel
theorem dX2_parse_26 : decode cX2_parse 26 = .ok (.ifCond .ne 177, 3) := by decide +kernel
theorem dX2_parse_29 : decode cX2_parse 29 = .ok (.aload_n 0, 1) := by decide +kernel
theorem dX2_parse_30 : decode cX2_parse 30 = .ok (.getfield 36, 3) := by decide +kernel
theorem dX2_parse_33 : decode cX2_parse 33 = .ok (.ifCond .ne 6, 3) := by decide +kernel
theorem dX2_parse_36 : decode cX2_parse 36 = .ok (.goto 167, 3) := by decide +kernel
theorem dX2_parse_39 : decode cX2_parse 39 = .ok (.aload_n 0, 1) := by decide +kernel
theorem dX2_parse_40 : decode cX2_parse 40 = .ok (.invokevirtual 39, 3) := by decide +kernel
theorem dX2_parse_43 : decode cX2_parse 43 = .ok (.tableswitch 139 0 8 #[77, 87, 99, 110, 121, 49, 56, 63, 70], 49) := by decide +kernel
theorem dX2_parse_92 : decode cX2_parse 92 = .ok (.aload_n 0, 1) := by decide +kernel
theorem dX2_parse_93 : decode cX2_parse 93 = .ok (.invokevirtual 43, 3) := by decide +kernel
theorem dX2_parse_96 : decode cX2_parse 96 = .ok (.goto 91, 3) := by decide +kernel
theorem dX2_parse_99 : decode cX2_parse 99 = .ok (.aload_n 0, 1) := by decide +kernel
theorem dX2_parse_100 : decode cX2_parse 100 = .ok (.invokevirtual 46, 3) := by decide +kernel
theorem dX2_parse_103 : decode cX2_parse 103 = .ok (.goto 84, 3) := by decide +kernel
theorem dX2_parse_106 : decode cX2_parse 106 = .ok (.aload_n 0, 1) := by decide +kernel
theorem dX2_parse_107 : decode cX2_parse 107 = .ok (.invokevirtual 49, 3) := by decide +kernel
theorem dX2_parse_110 : decode cX2_parse 110 = .ok (.goto 77, 3) := by decide +kernel
theorem dX2_parse_113 : decode cX2_parse 113 = .ok (.aload_n 0, 1) := by decide +kernel
theorem dX2_parse_114 : decode cX2_parse 114 = .ok (.invokevirtual 52, 3) := by decide +kernel
theorem dX2_parse_117 : decode cX2_parse 117 = .ok (.goto 70, 3) := by decide +kernel
theorem dX2_parse_120 : decode cX2_parse 120 = .ok (.aload_n 0, 1) := by decide +kernel
theorem dX2_parse_121 : decode cX2_parse 121 = .ok (.iconst 0, 1) := by decide +kernel
theorem dX2_parse_122 : decode cX2_parse 122 = .ok (.iconst 1, 1) := by decide +kernel
theorem dX2_parse_123 : decode cX2_parse 123 = .ok (.iconst 3, 1) := by decide +kernel
theorem dX2_parse_124 : decode cX2_parse 124 = .ok (.invokevirtual 55, 3) := by decide +kernel
theorem dX2_parse_127 : decode cX2_parse 127 = .ok (.goto 60, 3) := by decide +kernel
theorem dX2_parse_130 : decode cX2_parse 130 = .ok (.aload_n 0, 1) := by decide +kernel
theorem dX2_parse_131 : decode cX2_parse 131 = .ok (.iconst 1, 1) := by decide +kernel
theorem dX2_parse_132 : decode cX2_parse 132 = .ok (.iconst 1, 1) := by decide +kernel
theorem dX2_parse_133 : decode cX2_parse 133 = .ok (.sipush 800, 3) := by decide +kernel
theorem dX2_parse_136 : decode cX2_parse 136 = .ok (.invokevirtual 55, 3) := by decide +kernel
theorem dX2_parse_139 : decode cX2_parse 139 = .ok (.goto 48, 3) := by decide +kernel
theorem dX2_parse_142 : decode cX2_parse 142 = .ok (.aload_n 0, 1) := by decide +kernel
theorem dX2_parse_143 : decode cX2_parse 143 = .ok (.iconst 2, 1) := by decide +kernel
theorem dX2_parse_144 : decode cX2_parse 144 = .ok (.iconst 1, 1) := by decide +kernel
theorem dX2_parse_145 : decode cX2_parse 145 = .ok (.bipush 99, 2) := by decide +kernel
theorem dX2_parse_147 : decode cX2_parse 147 = .ok (.invokevirtual 55, 3) := by decide +kernel
theorem dX2_parse_150 : decode cX2_parse 150 = .ok (.goto 37, 3) := by decide +kernel
theorem dX2_parse_153 : decode cX2_parse 153 = .ok (.aload_n 0, 1) := by decide +kernel
theorem dX2_parse_154 : decode cX2_parse 154 = .ok (.iconst 3, 1) := by decide +kernel
theorem dX2_parse_155 : decode cX2_parse 155 = .ok (.iconst 1, 1) := by decide +kernel
theorem dX2_parse_156 : decode cX2_parse 156 = .ok (.bipush 99, 2) := by decide +kernel
theorem dX2_parse_158 : decode cX2_parse 158 = .ok (.invokevirtual 55, 3) := by decide +kernel
theorem dX2_parse_161 : decode cX2_parse 161 = .ok (.goto 26, 3) := by decide +kernel
theorem dX2_parse_164 : decode cX2_parse 164 = .ok (.aload_n 0, 1) := by decide +kernel
theorem dX2_parse_165 : decode cX2_parse 165 = .ok (.iconst 4, 1) := by decide +kernel
theorem dX2_parse_166 : decode cX2_parse 166 = .ok (.iconst 0, 1) := by decide +kernel
theorem dX2_parse_167 : decode cX2_parse 167 = .ok (.aload_n 0, 1) := by decide +kernel
theorem dX2_parse_168 : decode cX2_parse 168 = .ok (.getfield 23, 3) := by decide +kernel
theorem dX2_parse_171 : decode cX2_parse 171 = .ok (.getfield 59, 3) := by decide +kernel
theorem dX2_parse_174 : decode cX2_parse 174 = .ok (.iconst 1, 1) := by decide +kernel
theorem dX2_parse_175 : decode cX2_parse 175 = .ok (.isub, 1) := by decide +kernel
theorem dX2_parse_176 : decode cX2_parse 176 = .ok (.invokevirtual 55, 3) := by decide +kernel
theorem dX2_parse_179 : decode cX2_parse 179 = .ok (.goto 8, 3) := by decide +kernel
theorem dX2_parse_182 : decode cX2_parse 182 = .ok (.aload_n 0, 1) := by decide +kernel
theorem dX2_parse_183 : decode cX2_parse 183 = .ok (.iconst 2, 1) := by decide +kernel
theorem dX2_parse_184 : decode cX2_parse 184 = .ok (.invokevirtual 64, 3) := by decide +kernel
theorem dX2_parse_187 : decode cX2_parse 187 = .ok (.aload_n 0, 1) := by decide +kernel
theorem dX2_parse_188 : decode cX2_parse 188 = .ok (.dup, 1) := by decide +kernel
theorem dX2_parse_189 : decode cX2_parse 189 = .ok (.getfield 68, 3) := by decide +kernel
theorem dX2_parse_192 : decode cX2_parse 192 = .ok (.iconst 1, 1) := by decide +kernel
theorem dX2_parse_193 : decode cX2_parse 193 = .ok (.iadd, 1) := by decide +kernel
theorem dX2_parse_194 : decode cX2_parse 194 = .ok (.putfield 68, 3) := by decide +kernel
theorem dX2_parse_197 : decode cX2_parse 197 = .ok (.iinc 2 1, 3) := by decide +kernel
theorem dX2_parse_200 : decode cX2_parse 200 = .ok (.goto (-189), 3) := by decide +kernel
theorem dX2_parse_203 : decode cX2_parse 203 = .ok (.aload_n 0, 1) := by decide +kernel
theorem dX2_parse_204 : decode cX2_parse 204 = .ok (.iconst 0, 1) := by decide +kernel
theorem dX2_parse_205 : decode cX2_parse 205 = .ok (.putfield 19, 3) := by decide +kernel
theorem dX2_parse_208 : decode cX2_parse 208 = .ok (.return_, 1) := by decide +kernel
theorem dX3_weigh_0 : decode cX3_weigh 0 = .ok (.aload_n 0, 1) := by decide +kernel
theorem dX3_weigh_1 : decode cX3_weigh 1 = .ok (.iconst 0, 1) := by decide +kernel
theorem dX3_weigh_2 : decode cX3_weigh 2 = .ok (.putfield 9, 3) := by decide +kernel
theorem dX3_weigh_5 : decode cX3_weigh 5 = .ok (.iconst 0, 1) := by decide +kernel
theorem dX3_weigh_6 : decode cX3_weigh 6 = .ok (.istore 4, 2) := by decide +kernel
theorem dX3_weigh_8 : decode cX3_weigh 8 = .ok (.iconst 0, 1) := by decide +kernel
theorem dX3_weigh_9 : decode cX3_weigh 9 = .ok (.istore 5, 2) := by decide +kernel
theorem dX3_weigh_11 : decode cX3_weigh 11 = .ok (.iconst 0, 1) := by decide +kernel
theorem dX3_weigh_12 : decode cX3_weigh 12 = .ok (.istore 6, 2) := by decide +kernel
theorem dX3_weigh_14 : decode cX3_weigh 14 = .ok (.iload 6, 2) := by decide +kernel
theorem dX3_weigh_16 : decode cX3_weigh 16 = .ok (.aload_n 1, 1) := by decide +kernel
theorem dX3_weigh_17 : decode cX3_weigh 17 = .ok (.getfield 15, 3) := by decide +kernel
theorem dX3_weigh_20 : decode cX3_weigh 20 = .ok (.if_icmp .ge 81, 3) := by decide +kernel
theorem dX3_weigh_23 : decode cX3_weigh 23 = .ok (.iload_n 3, 1) := by decide +kernel
theorem dX3_weigh_24 : decode cX3_weigh 24 = .ok (.iload 6, 2) := by decide +kernel
theorem dX3_weigh_26 : decode cX3_weigh 26 = .ok (.ishr, 1) := by decide +kernel
theorem dX3_weigh_27 : decode cX3_weigh 27 = .ok (.iconst 1, 1) := by decide +kernel
theorem dX3_weigh_28 : decode cX3_weigh 28 = .ok (.iand, 1) := by decide +kernel
theorem dX3_weigh_29 : decode cX3_weigh 29 = .ok (.iconst 1, 1) := by decide +kernel
theorem dX3_weigh_30 : decode cX3_weigh 30 = .ok (.if_icmp .ne 13, 3) := by decide +kernel
theorem dX3_weigh_33 : decode cX3_weigh 33 = .ok (.aload_n 1, 1) := by decide +kernel
theorem dX3_weigh_34 : decode cX3_weigh 34 = .ok (.getfield 20, 3) := by decide +kernel
theorem dX3_weigh_37 : decode cX3_weigh 37 = .ok (.iload 6, 2) := by decide +kernel
theorem dX3_weigh_39 : decode cX3_weigh 39 = .ok (.iaload, 1) := by decide +kernel
theorem dX3_weigh_40 : decode cX3_weigh 40 = .ok (.goto 7, 3) := by decide +kernel
theorem dX3_weigh_43 : decode cX3_weigh 43 = .ok (.aload_n 2, 1) := by decide +kernel
theorem dX3_weigh_44 : decode cX3_weigh 44 = .ok (.iload 6, 2) := by decide +kernel
theorem dX3_weigh_46 : decode cX3_weigh 46 = .ok (.iaload, 1) := by decide +kernel
theorem dX3_weigh_47 : decode cX3_weigh 47 = .ok (.istore 7, 2) := by decide +kernel
theorem dX3_weigh_49 : decode cX3_weigh 49 = .ok (.aload_n 0, 1) := by decide +kernel
theorem dX3_weigh_50 : decode cX3_weigh 50 = .ok (.dup, 1) := by decide +kernel
theorem dX3_weigh_51 : decode cX3_weigh 51 = .ok (.getfield 9, 3) := by decide +kernel
theorem dX3_weigh_54 : decode cX3_weigh 54 = .ok (.iload 7, 2) := by decide +kernel
theorem dX3_weigh_56 : decode cX3_weigh 56 = .ok (.iadd, 1) := by decide +kernel
theorem dX3_weigh_57 : decode cX3_weigh 57 = .ok (.putfield 9, 3) := by decide +kernel
theorem dX3_weigh_60 : decode cX3_weigh 60 = .ok (.iload 4, 2) := by decide +kernel
theorem dX3_weigh_62 : decode cX3_weigh 62 = .ok (.iload 7, 2) := by decide +kernel
theorem dX3_weigh_64 : decode cX3_weigh 64 = .ok (.aload_n 1, 1) := by decide +kernel
theorem dX3_weigh_65 : decode cX3_weigh 65 = .ok (.getfield 24, 3) := by decide +kernel
theorem dX3_weigh_68 : decode cX3_weigh 68 = .ok (.iload 6, 2) := by decide +kernel
theorem dX3_weigh_70 : decode cX3_weigh 70 = .ok (.iaload, 1) := by decide +kernel
theorem dX3_weigh_71 : decode cX3_weigh 71 = .ok (.iconst 1, 1) := by decide +kernel
theorem dX3_weigh_72 : decode cX3_weigh 72 = .ok (.isub, 1) := by decide +kernel
theorem dX3_weigh_73 : decode cX3_weigh 73 = .ok (.imul, 1) := by decide +kernel
theorem dX3_weigh_74 : decode cX3_weigh 74 = .ok (.iadd, 1) := by decide +kernel
theorem dX3_weigh_75 : decode cX3_weigh 75 = .ok (.istore 4, 2) := by decide +kernel
theorem dX3_weigh_77 : decode cX3_weigh 77 = .ok (.iload 5, 2) := by decide +kernel
theorem dX3_weigh_79 : decode cX3_weigh 79 = .ok (.iload 7, 2) := by decide +kernel
theorem dX3_weigh_81 : decode cX3_weigh 81 = .ok (.aload_n 1, 1) := by decide +kernel
theorem dX3_weigh_82 : decode cX3_weigh 82 = .ok (.getfield 27, 3) := by decide +kernel
theorem dX3_weigh_85 : decode cX3_weigh 85 = .ok (.iload 6, 2) := by decide +kernel
theorem dX3_weigh_87 : decode cX3_weigh 87 = .ok (.iaload, 1) := by decide +kernel
theorem dX3_weigh_88 : decode cX3_weigh 88 = .ok (.bipush 9, 2) := by decide +kernel
theorem dX3_weigh_90 : decode cX3_weigh 90 = .ok (.isub, 1) := by decide +kernel
theorem dX3_weigh_91 : decode cX3_weigh 91 = .ok (.imul, 1) := by decide +kernel
theorem dX3_weigh_92 : decode cX3_weigh 92 = .ok (.iadd, 1) := by decide +kernel
theorem dX3_weigh_93 : decode cX3_weigh 93 = .ok (.istore 5, 2) := by decide +kernel
theorem dX3_weigh_95 : decode cX3_weigh 95 = .ok (.iinc 6 1, 3) := by decide +kernel
theorem dX3_weigh_98 : decode cX3_weigh 98 = .ok (.goto (-84), 3) := by decide +kernel
theorem dX3_weigh_101 : decode cX3_weigh 101 = .ok (.aload_n 0, 1) := by decide +kernel
theorem dX3_weigh_102 : decode cX3_weigh 102 = .ok (.iload 4, 2) := by decide +kernel
theorem dX3_weigh_104 : decode cX3_weigh 104 = .ok (.invokestatic 30, 3) := by decide +kernel
theorem dX3_weigh_107 : decode cX3_weigh 107 = .ok (.iconst 2, 1) := by decide +kernel
theorem dX3_weigh_108 : decode cX3_weigh 108 = .ok (.idiv, 1) := by decide +kernel
theorem dX3_weigh_109 : decode cX3_weigh 109 = .ok (.putfield 36, 3) := by decide +kernel
theorem dX3_weigh_112 : decode cX3_weigh 112 = .ok (.aload_n 0, 1) := by decide +kernel
theorem dX3_weigh_113 : decode cX3_weigh 113 = .ok (.iload 5, 2) := by decide +kernel
theorem dX3_weigh_115 : decode cX3_weigh 115 = .ok (.invokestatic 30, 3) := by decide +kernel
theorem dX3_weigh_118 : decode cX3_weigh 118 = .ok (.bipush 10, 2) := by decide +kernel
theorem dX3_weigh_120 : decode cX3_weigh 120 = .ok (.idiv, 1) := by decide +kernel
theorem dX3_weigh_121 : decode cX3_weigh 121 = .ok (.putfield 39, 3) := by decide +kernel
theorem dX3_weigh_124 : decode cX3_weigh 124 = .ok (.return_, 1) := by decide +kernel
theorem dX3_whySinks_0 : decode cX3_whySinks 0 = .ok (.aload_n 0, 1) := by decide +kernel
theorem dX3_whySinks_1 : decode cX3_whySinks 1 = .ok (.getfield 9, 3) := by decide +kernel
theorem dX3_whySinks_4 : decode cX3_whySinks 4 = .ok (.aload_n 1, 1) := by decide +kernel
theorem dX3_whySinks_5 : decode cX3_whySinks 5 = .ok (.getfield 42, 3) := by decide +kernel
theorem dX3_whySinks_8 : decode cX3_whySinks 8 = .ok (.iconst 1, 1) := by decide +kernel
theorem dX3_whySinks_9 : decode cX3_whySinks 9 = .ok (.iaload, 1) := by decide +kernel
theorem dX3_whySinks_10 : decode cX3_whySinks 10 = .ok (.if_icmp .lt 5, 3) := by decide +kernel
theorem dX3_whySinks_13 : decode cX3_whySinks 13 = .ok (.iconst 1, 1) := by decide +kernel
theorem dX3_whySinks_14 : decode cX3_whySinks 14 = .ok (.ireturn, 1) := by decide +kernel
theorem dX3_whySinks_15 : decode cX3_whySinks 15 = .ok (.aload_n 0, 1) := by decide +kernel
theorem dX3_whySinks_16 : decode cX3_whySinks 16 = .ok (.getfield 36, 3) := by decide +kernel
theorem dX3_whySinks_19 : decode cX3_whySinks 19 = .ok (.aload_n 1, 1) := by decide +kernel
theorem dX3_whySinks_20 : decode cX3_whySinks 20 = .ok (.getfield 42, 3) := by decide +kernel
theorem dX3_whySinks_23 : decode cX3_whySinks 23 = .ok (.iconst 2, 1) := by decide +kernel
theorem dX3_whySinks_24 : decode cX3_whySinks 24 = .ok (.iaload, 1) := by decide +kernel
theorem dX3_whySinks_25 : decode cX3_whySinks 25 = .ok (.if_icmp .le 5, 3) := by decide +kernel
theorem dX3_whySinks_28 : decode cX3_whySinks 28 = .ok (.iconst 2, 1) := by decide +kernel
theorem dX3_whySinks_29 : decode cX3_whySinks 29 = .ok (.ireturn, 1) := by decide +kernel
theorem dX3_whySinks_30 : decode cX3_whySinks 30 = .ok (.aload_n 0, 1) := by decide +kernel
theorem dX3_whySinks_31 : decode cX3_whySinks 31 = .ok (.getfield 39, 3) := by decide +kernel
theorem dX3_whySinks_34 : decode cX3_whySinks 34 = .ok (.aload_n 1, 1) := by decide +kernel
theorem dX3_whySinks_35 : decode cX3_whySinks 35 = .ok (.getfield 42, 3) := by decide +kernel
theorem dX3_whySinks_38 : decode cX3_whySinks 38 = .ok (.iconst 3, 1) := by decide +kernel
theorem dX3_whySinks_39 : decode cX3_whySinks 39 = .ok (.iaload, 1) := by decide +kernel
theorem dX3_whySinks_40 : decode cX3_whySinks 40 = .ok (.if_icmp .le 7, 3) := by decide +kernel
theorem dX3_whySinks_43 : decode cX3_whySinks 43 = .ok (.iconst 3, 1) := by decide +kernel
theorem dX3_whySinks_44 : decode cX3_whySinks 44 = .ok (.goto 4, 3) := by decide +kernel
theorem dX3_whySinks_47 : decode cX3_whySinks 47 = .ok (.iconst 0, 1) := by decide +kernel
theorem dX3_whySinks_48 : decode cX3_whySinks 48 = .ok (.ireturn, 1) := by decide +kernel
theorem dX4_bestCode_0 : decode cX4_bestCode 0 = .ok (.iload_n 1, 1) := by decide +kernel
theorem dX4_bestCode_1 : decode cX4_bestCode 1 = .ok (.ifCond .lt 17, 3) := by decide +kernel
theorem dX4_bestCode_4 : decode cX4_bestCode 4 = .ok (.iload_n 1, 1) := by decide +kernel
theorem dX4_bestCode_5 : decode cX4_bestCode 5 = .ok (.iconst 3, 1) := by decide +kernel
theorem dX4_bestCode_6 : decode cX4_bestCode 6 = .ok (.if_icmp .ge 12, 3) := by decide +kernel
theorem dX4_bestCode_9 : decode cX4_bestCode 9 = .ok (.aload_n 0, 1) := by decide +kernel
theorem dX4_bestCode_10 : decode cX4_bestCode 10 = .ok (.getfield 18, 3) := by decide +kernel
theorem dX4_bestCode_13 : decode cX4_bestCode 13 = .ok (.iload_n 1, 1) := by decide +kernel
theorem dX4_bestCode_14 : decode cX4_bestCode 14 = .ok (.iaload, 1) := by decide +kernel
theorem dX4_bestCode_15 : decode cX4_bestCode 15 = .ok (.goto 4, 3) := by decide +kernel
theorem dX4_bestCode_18 : decode cX4_bestCode 18 = .ok (.iconst (-1), 1) := by decide +kernel
theorem dX4_bestCode_19 : decode cX4_bestCode 19 = .ok (.ireturn, 1) := by decide +kernel
theorem dX4_fillRow_0 : decode cX4_fillRow 0 = .ok (.iload_n 1, 1) := by decide +kernel
theorem dX4_fillRow_1 : decode cX4_fillRow 1 = .ok (.istore_n 3, 1) := by decide +kernel
theorem dX4_fillRow_2 : decode cX4_fillRow 2 = .ok (.iload_n 2, 1) := by decide +kernel
theorem dX4_fillRow_3 : decode cX4_fillRow 3 = .ok (.iconst 1, 1) := by decide +kernel
theorem dX4_fillRow_4 : decode cX4_fillRow 4 = .ok (.isub, 1) := by decide +kernel
theorem dX4_fillRow_5 : decode cX4_fillRow 5 = .ok (.istore 4, 2) := by decide +kernel
theorem dX4_fillRow_7 : decode cX4_fillRow 7 = .ok (.iload 4, 2) := by decide +kernel
theorem dX4_fillRow_9 : decode cX4_fillRow 9 = .ok (.ifCond .lt 41, 3) := by decide +kernel
theorem dX4_fillRow_12 : decode cX4_fillRow 12 = .ok (.aload_n 0, 1) := by decide +kernel
theorem dX4_fillRow_13 : decode cX4_fillRow 13 = .ok (.getfield 32, 3) := by decide +kernel
theorem dX4_fillRow_16 : decode cX4_fillRow 16 = .ok (.ifCond .le 34, 3) := by decide +kernel
theorem dX4_fillRow_19 : decode cX4_fillRow 19 = .ok (.aload_n 0, 1) := by decide +kernel
theorem dX4_fillRow_20 : decode cX4_fillRow 20 = .ok (.getfield 15, 3) := by decide +kernel
theorem dX4_fillRow_23 : decode cX4_fillRow 23 = .ok (.iload 4, 2) := by decide +kernel
theorem dX4_fillRow_25 : decode cX4_fillRow 25 = .ok (.aload_n 0, 1) := by decide +kernel
theorem dX4_fillRow_26 : decode cX4_fillRow 26 = .ok (.getfield 9, 3) := by decide +kernel
theorem dX4_fillRow_29 : decode cX4_fillRow 29 = .ok (.iload_n 3, 1) := by decide +kernel
theorem dX4_fillRow_30 : decode cX4_fillRow 30 = .ok (.aload_n 0, 1) := by decide +kernel
theorem dX4_fillRow_31 : decode cX4_fillRow 31 = .ok (.getfield 32, 3) := by decide +kernel
theorem dX4_fillRow_34 : decode cX4_fillRow 34 = .ok (.irem, 1) := by decide +kernel
theorem dX4_fillRow_35 : decode cX4_fillRow 35 = .ok (.iaload, 1) := by decide +kernel
theorem dX4_fillRow_36 : decode cX4_fillRow 36 = .ok (.iastore, 1) := by decide +kernel
theorem dX4_fillRow_37 : decode cX4_fillRow 37 = .ok (.iload_n 3, 1) := by decide +kernel
theorem dX4_fillRow_38 : decode cX4_fillRow 38 = .ok (.aload_n 0, 1) := by decide +kernel
theorem dX4_fillRow_39 : decode cX4_fillRow 39 = .ok (.getfield 32, 3) := by decide +kernel
theorem dX4_fillRow_42 : decode cX4_fillRow 42 = .ok (.idiv, 1) := by decide +kernel
theorem dX4_fillRow_43 : decode cX4_fillRow 43 = .ok (.istore_n 3, 1) := by decide +kernel
theorem dX4_fillRow_44 : decode cX4_fillRow 44 = .ok (.iinc 4 (-1), 3) := by decide +kernel
theorem dX4_fillRow_47 : decode cX4_fillRow 47 = .ok (.goto (-40), 3) := by decide +kernel
theorem dX4_fillRow_50 : decode cX4_fillRow 50 = .ok (.iconst 1, 1) := by decide +kernel
theorem dX4_fillRow_51 : decode cX4_fillRow 51 = .ok (.istore 4, 2) := by decide +kernel
theorem dX4_fillRow_53 : decode cX4_fillRow 53 = .ok (.iload 4, 2) := by decide +kernel
theorem dX4_fillRow_55 : decode cX4_fillRow 55 = .ok (.iload_n 2, 1) := by decide +kernel
theorem dX4_fillRow_56 : decode cX4_fillRow 56 = .ok (.if_icmp .ge 44, 3) := by decide +kernel
theorem dX4_fillRow_59 : decode cX4_fillRow 59 = .ok (.iconst 0, 1) := by decide +kernel
theorem dX4_fillRow_60 : decode cX4_fillRow 60 = .ok (.istore 5, 2) := by decide +kernel
theorem dX4_fillRow_62 : decode cX4_fillRow 62 = .ok (.iload 5, 2) := by decide +kernel
theorem dX4_fillRow_64 : decode cX4_fillRow 64 = .ok (.iload 4, 2) := by decide +kernel
theorem dX4_fillRow_66 : decode cX4_fillRow 66 = .ok (.if_icmp .ge 28, 3) := by decide +kernel
theorem dX4_fillRow_69 : decode cX4_fillRow 69 = .ok (.aload_n 0, 1) := by decide +kernel
theorem dX4_fillRow_70 : decode cX4_fillRow 70 = .ok (.getfield 15, 3) := by decide +kernel
theorem dX4_fillRow_73 : decode cX4_fillRow 73 = .ok (.iload 4, 2) := by decide +kernel
theorem dX4_fillRow_75 : decode cX4_fillRow 75 = .ok (.iaload, 1) := by decide +kernel
theorem dX4_fillRow_76 : decode cX4_fillRow 76 = .ok (.aload_n 0, 1) := by decide +kernel
theorem dX4_fillRow_77 : decode cX4_fillRow 77 = .ok (.getfield 15, 3) := by decide +kernel
theorem dX4_fillRow_80 : decode cX4_fillRow 80 = .ok (.iload 5, 2) := by decide +kernel
theorem dX4_fillRow_82 : decode cX4_fillRow 82 = .ok (.iaload, 1) := by decide +kernel
theorem dX4_fillRow_83 : decode cX4_fillRow 83 = .ok (.if_icmp .ne 5, 3) := by decide +kernel
theorem dX4_fillRow_86 : decode cX4_fillRow 86 = .ok (.iconst 0, 1) := by decide +kernel
theorem dX4_fillRow_87 : decode cX4_fillRow 87 = .ok (.ireturn, 1) := by decide +kernel
theorem dX4_fillRow_88 : decode cX4_fillRow 88 = .ok (.iinc 5 1, 3) := by decide +kernel
theorem dX4_fillRow_91 : decode cX4_fillRow 91 = .ok (.goto (-29), 3) := by decide +kernel
theorem dX4_fillRow_94 : decode cX4_fillRow 94 = .ok (.iinc 4 1, 3) := by decide +kernel
theorem dX4_fillRow_97 : decode cX4_fillRow 97 = .ok (.goto (-44), 3) := by decide +kernel
theorem dX4_fillRow_100 : decode cX4_fillRow 100 = .ok (.iconst 1, 1) := by decide +kernel
theorem dX4_fillRow_101 : decode cX4_fillRow 101 = .ok (.ireturn, 1) := by decide +kernel
theorem dX8_minutesFor_0 : decode cX8_minutesFor 0 = .ok (.iload_n 1, 1) := by decide +kernel
theorem dX8_minutesFor_1 : decode cX8_minutesFor 1 = .ok (.tableswitch 41 0 2 #[27, 27, 34], 27) := by decide +kernel
theorem dX8_minutesFor_28 : decode cX8_minutesFor 28 = .ok (.aload_n 0, 1) := by decide +kernel
theorem dX8_minutesFor_29 : decode cX8_minutesFor 29 = .ok (.getfield 148, 3) := by decide +kernel
theorem dX8_minutesFor_32 : decode cX8_minutesFor 32 = .ok (.iload_n 2, 1) := by decide +kernel
theorem dX8_minutesFor_33 : decode cX8_minutesFor 33 = .ok (.iaload, 1) := by decide +kernel
theorem dX8_minutesFor_34 : decode cX8_minutesFor 34 = .ok (.ireturn, 1) := by decide +kernel
theorem dX8_minutesFor_35 : decode cX8_minutesFor 35 = .ok (.aload_n 0, 1) := by decide +kernel
theorem dX8_minutesFor_36 : decode cX8_minutesFor 36 = .ok (.getfield 172, 3) := by decide +kernel
theorem dX8_minutesFor_39 : decode cX8_minutesFor 39 = .ok (.iload_n 2, 1) := by decide +kernel
theorem dX8_minutesFor_40 : decode cX8_minutesFor 40 = .ok (.iaload, 1) := by decide +kernel
theorem dX8_minutesFor_41 : decode cX8_minutesFor 41 = .ok (.ireturn, 1) := by decide +kernel
theorem dX8_minutesFor_42 : decode cX8_minutesFor 42 = .ok (.iconst 1, 1) := by decide +kernel
theorem dX8_minutesFor_43 : decode cX8_minutesFor 43 = .ok (.ireturn, 1) := by decide +kernel
def b_X2_parse_11 (F : Nat) (Q : Nat) (t3 : Int32 × Mm) : Option ((Int32 × Mm) ⊕ ((Mm) ⊕ (Mm))) :=
  if (400 : Int32) < t3.1 then (some (Sum.inr (Sum.inr (t3.2)))) else ((f_X2_nextToken F t3.2).bind fun m7 => if (m7 1 3) = 0 then (if (m7 1 9) = 0 then (some (Sum.inr (Sum.inl m7))) else ((f_X2_lineBegun F m7).bind fun x8 => (if x8 = 0 then ((f_X2_takeRule F m7 Q 0 1 3).bind fun m12 => some m12) else (if x8 = 1 then ((f_X2_takeRule F m7 Q 1 1 800).bind fun m14 => some m14) else (if x8 = 2 then ((f_X2_takeRule F m7 Q 2 1 99).bind fun m16 => some m16) else (if x8 = 3 then ((f_X2_takeRule F m7 Q 3 1 99).bind fun m18 => some m18) else (if x8 = 4 then ((f_X2_takeRule F m7 Q 4 0 ((m7 Q 0) - (1 : Int32))).bind fun m20 => some m20) else (if x8 = 5 then ((f_X2_takeHold F m7 Q).bind fun m22 => some m22) else (if x8 = 6 then ((f_X2_takeDoor F m7 Q).bind fun m24 => some m24) else (if x8 = 7 then ((f_X2_takeHole F m7 Q).bind fun m26 => some m26) else (if x8 = 8 then ((f_X2_takePump F m7 Q).bind fun m28 => some m28) else ((f_X2_refuse m7 2).bind fun m30 => some m30))))))))) : Option (Mm)).bind fun y10 => letv (up2 y10 1 2 ((y10 1 2) + (1 : Int32))) fun m31 => some (Sum.inl (t3.1 + 1, m31)))) else (some (Sum.inr (Sum.inr (m7)))))
def f_X2_parse (F : Nat) (m : Mm) (Q : Nat) : Option (Mm) :=
  (f_X2_startAnew F m Q).bind fun m2 => (iter F (b_X2_parse_11 F Q) ((0, m2) : Int32 × Mm)).bind (Sum.elim (fun e4 : Mm => letv (up2 e4 1 1 0) fun m32 => some m32) (fun e5 : Mm => letv (up2 e5 1 1 0) fun m33 => some m33))
set_option maxHeartbeats 4000000 in
set_option maxRecDepth 100000 in
theorem ct_X2_parse (F : Nat) {n : Nat} (hn : 113 ≤ n) (P D : Nat) (T : Option Nat) (m : Mm) (Q : Nat) (hQ : isPl Q) : Ct yX2_parse cX2_parse 3 none 6 129 [.ref 1, .ref Q] n n m (RF P D T) (rV (RF P D (some Q)) (f_X2_parse F m Q)) := by
  refine Ct.ofV (own := RX2) (nm := "parse") [(0, .ref 1), (1, .ref Q)] (by decide) (Nat.le_of_ble_eq_true rfl) rfl rfl rfl ?_
  unfold f_X2_parse
  refine J_aload_n 0 0 1 dX2_parse_0 rfl rfl ?_
  refine J_aload_n 1 1 Q dX2_parse_1 rfl rfl ?_
  refine J_putR 1 2 6 Q dX2_parse_2 fl_2_23 rfl rfl (Nat.lt_of_lt_of_le (Nat.le_of_ble_eq_true rfl) hn) rfl (fun _ => rfl) (fun _ => rfl) ?_
  rw [RF_set]
  refine J_aload_n 0 0 1 dX2_parse_5 rfl rfl ?_
  refine J_callVV 1 2 0 [] dX2_parse_6 mv_X2_startAnew mv_X2_startAnewv lk_2_27 (ct_X2_startAnew F hn P D Q hQ m) rfl rfl (by decide) rfl (Nat.lt_of_lt_of_le (Nat.le_of_ble_eq_true rfl) hn) ⟨by decide, by decide⟩ (Nat.le_of_ble_eq_true rfl) (fun m2 => ?_)
  refine J_iconst 0 dX2_parse_9 (by decide) ?_
  refine J_istore_n 2 [(2, .int 0), (0, .ref 1), (1, .ref Q)] dX2_parse_10 rfl (by decide) rfl ?_
  refine J_lv [1, 0] rfl ?_
  refine J_loop (pc := 11) (fun t3 : Int32 × Mm => [(0, .ref 1), (2, .int t3.1)]) (fun t3 => t3.2) (Sum.elim (fun _ => 36) (fun _ => 203)) (Sum.elim (fun e4 : Mm => [(0, .ref 1)]) (fun e5 : Mm => [(0, .ref 1)])) (fun _ => []) (Sum.elim (fun e4 : Mm => e4) (fun e5 : Mm => e5)) ?_ (fun t3 k1 hBt3 hXt3 => ?_) F ((0, m2))
  · refine sum_all ?_ ?_
    · intro e4
      dsimp only [Sum.elim_inl, Sum.elim_inr]
      refine J_goto 203 dX2_parse_36 (by decide) ?_
      refine J_aload_n 0 0 1 dX2_parse_203 rfl rfl ?_
      refine J_iconst 0 dX2_parse_204 (by decide) ?_
      refine J_putI 1 2 1 dX2_parse_205 fl_2_19 rfl rfl (Nat.lt_of_lt_of_le (Nat.le_of_ble_eq_true rfl) hn) rfl rfl rfl (fun m32 => ?_)
      exact J_vretV dX2_parse_208 rfl rfl
    · intro e5
      dsimp only [Sum.elim_inl, Sum.elim_inr]
      refine J_aload_n 0 0 1 dX2_parse_203 rfl rfl ?_
      refine J_iconst 0 dX2_parse_204 (by decide) ?_
      refine J_putI 1 2 1 dX2_parse_205 fl_2_19 rfl rfl (Nat.lt_of_lt_of_le (Nat.le_of_ble_eq_true rfl) hn) rfl rfl rfl (fun m33 => ?_)
      exact J_vretV dX2_parse_208 rfl rfl
  · unfold b_X2_parse_11
    refine J_iload_n 2 1 t3.1 dX2_parse_11 rfl rfl ?_
    refine J_sipush 400 dX2_parse_12 (by decide) ?_
    refine J_icmp_gt 203 dX2_parse_15 (by decide) ?_ ?_
    · exact J_lv [0] rfl (hXt3 (Sum.inr (t3.2)))
    · refine J_aload_n 0 0 1 dX2_parse_18 rfl rfl ?_
      refine J_callVV 1 2 0 [] dX2_parse_19 mv_X2_nextToken mv_X2_nextTokenv lk_2_30 (ct_X2_nextToken F hn P D (some Q) t3.2) rfl rfl (by decide) rfl (Nat.lt_of_lt_of_le (Nat.le_of_ble_eq_true rfl) hn) ⟨by decide, by decide⟩ (Nat.le_of_ble_eq_true rfl) (fun m7 => ?_)
      refine J_aload_n 0 0 1 dX2_parse_22 rfl rfl ?_
      refine J_getI 1 2 3 dX2_parse_23 fl_2_33 rfl rfl (Nat.lt_of_lt_of_le (Nat.le_of_ble_eq_true rfl) hn) ?_
      refine J_if_ne 203 dX2_parse_26 (by decide) ?_ ?_
      · exact J_lv [0] rfl (hXt3 (Sum.inr (m7)))
      · refine J_aload_n 0 0 1 dX2_parse_29 rfl rfl ?_
        refine J_getI 1 2 9 dX2_parse_30 fl_2_36 rfl rfl (Nat.lt_of_lt_of_le (Nat.le_of_ble_eq_true rfl) hn) ?_
        refine J_if_ne 39 dX2_parse_33 (by decide) ?_ ?_
        · refine J_aload_n 0 0 1 dX2_parse_39 rfl rfl ?_
          refine J_callVP 1 2 0 [] dX2_parse_40 mv_X2_lineBegun mv_X2_lineBegunv lk_2_39 (ct_X2_lineBegun F hn P D (some Q) m7) rfl rfl (by decide) rfl (Nat.lt_of_lt_of_le (Nat.le_of_ble_eq_true rfl) hn) ⟨by decide, by decide⟩ (Nat.le_of_ble_eq_true rfl) (fun x8 => ?_)
          refine J_seqJ 187 (fun y10 : Mm => [(0, .ref 1), (2, .int t3.1)]) (fun y10 => []) (fun y10 => y10) (fun y10 => ?_) (fun k1 hEy10 => ?_)
          · refine J_aload_n 0 0 1 dX2_parse_187 rfl rfl ?_
            refine J_dup dX2_parse_188 rfl ?_
            refine J_getI 1 2 2 dX2_parse_189 fl_2_68 rfl rfl (Nat.lt_of_lt_of_le (Nat.le_of_ble_eq_true rfl) hn) ?_
            refine J_iconst 1 dX2_parse_192 (by decide) ?_
            refine J_iadd dX2_parse_193 ?_
            refine J_putI 1 2 2 dX2_parse_194 fl_2_68 rfl rfl (Nat.lt_of_lt_of_le (Nat.le_of_ble_eq_true rfl) hn) rfl rfl rfl (fun m31 => ?_)
            refine J_iinc 2 1 [(2, .int (t3.1 + 1)), (0, .ref 1)] t3.1 (t3.1 + 1) dX2_parse_197 rfl rfl (by decide) rfl ?_
            refine J_goto 11 dX2_parse_200 (by decide) ?_
            exact J_lv [1, 0] rfl (hBt3 (t3.1 + 1, m31))
          · refine J_split (c1 := 0) (fun hs43_0 => ?_) (fun hs43_0 => ?_)
            · refine J_tsIn 120 hs43_0 dX2_parse_43 (by decide) (by decide) rfl (by decide) ?_
              refine J_aload_n 0 0 1 dX2_parse_120 rfl rfl ?_
              refine J_iconst 0 dX2_parse_121 (by decide) ?_
              refine J_iconst 1 dX2_parse_122 (by decide) ?_
              refine J_iconst 3 dX2_parse_123 (by decide) ?_
              refine J_callVV 1 2 3 [.int 0, .int 1, .int 3] dX2_parse_124 mv_X2_takeRule mv_X2_takeRulev lk_2_55 (ct_X2_takeRule F hn P D Q hQ m7 0 1 3) rfl rfl (by decide) rfl (Nat.lt_of_lt_of_le (Nat.le_of_ble_eq_true rfl) hn) ⟨by decide, by decide⟩ (Nat.le_of_ble_eq_true rfl) (fun m12 => ?_)
              refine J_goto 187 dX2_parse_127 (by decide) ?_
              exact J_lv [0, 1] rfl (hEy10 m12)
            · refine J_split (c1 := 1) (fun hs43_1 => ?_) (fun hs43_1 => ?_)
              · refine J_tsIn 130 hs43_1 dX2_parse_43 (by decide) (by decide) rfl (by decide) ?_
                refine J_aload_n 0 0 1 dX2_parse_130 rfl rfl ?_
                refine J_iconst 1 dX2_parse_131 (by decide) ?_
                refine J_iconst 1 dX2_parse_132 (by decide) ?_
                refine J_sipush 800 dX2_parse_133 (by decide) ?_
                refine J_callVV 1 2 3 [.int 1, .int 1, .int 800] dX2_parse_136 mv_X2_takeRule mv_X2_takeRulev lk_2_55 (ct_X2_takeRule F hn P D Q hQ m7 1 1 800) rfl rfl (by decide) rfl (Nat.lt_of_lt_of_le (Nat.le_of_ble_eq_true rfl) hn) ⟨by decide, by decide⟩ (Nat.le_of_ble_eq_true rfl) (fun m14 => ?_)
                refine J_goto 187 dX2_parse_139 (by decide) ?_
                exact J_lv [0, 1] rfl (hEy10 m14)
              · refine J_split (c1 := 2) (fun hs43_2 => ?_) (fun hs43_2 => ?_)
                · refine J_tsIn 142 hs43_2 dX2_parse_43 (by decide) (by decide) rfl (by decide) ?_
                  refine J_aload_n 0 0 1 dX2_parse_142 rfl rfl ?_
                  refine J_iconst 2 dX2_parse_143 (by decide) ?_
                  refine J_iconst 1 dX2_parse_144 (by decide) ?_
                  refine J_bipush 99 dX2_parse_145 (by decide) ?_
                  refine J_callVV 1 2 3 [.int 2, .int 1, .int 99] dX2_parse_147 mv_X2_takeRule mv_X2_takeRulev lk_2_55 (ct_X2_takeRule F hn P D Q hQ m7 2 1 99) rfl rfl (by decide) rfl (Nat.lt_of_lt_of_le (Nat.le_of_ble_eq_true rfl) hn) ⟨by decide, by decide⟩ (Nat.le_of_ble_eq_true rfl) (fun m16 => ?_)
                  refine J_goto 187 dX2_parse_150 (by decide) ?_
                  exact J_lv [0, 1] rfl (hEy10 m16)
                · refine J_split (c1 := 3) (fun hs43_3 => ?_) (fun hs43_3 => ?_)
                  · refine J_tsIn 153 hs43_3 dX2_parse_43 (by decide) (by decide) rfl (by decide) ?_
                    refine J_aload_n 0 0 1 dX2_parse_153 rfl rfl ?_
                    refine J_iconst 3 dX2_parse_154 (by decide) ?_
                    refine J_iconst 1 dX2_parse_155 (by decide) ?_
                    refine J_bipush 99 dX2_parse_156 (by decide) ?_
                    refine J_callVV 1 2 3 [.int 3, .int 1, .int 99] dX2_parse_158 mv_X2_takeRule mv_X2_takeRulev lk_2_55 (ct_X2_takeRule F hn P D Q hQ m7 3 1 99) rfl rfl (by decide) rfl (Nat.lt_of_lt_of_le (Nat.le_of_ble_eq_true rfl) hn) ⟨by decide, by decide⟩ (Nat.le_of_ble_eq_true rfl) (fun m18 => ?_)
                    refine J_goto 187 dX2_parse_161 (by decide) ?_
                    exact J_lv [0, 1] rfl (hEy10 m18)
                  · refine J_split (c1 := 4) (fun hs43_4 => ?_) (fun hs43_4 => ?_)
                    · refine J_tsIn 164 hs43_4 dX2_parse_43 (by decide) (by decide) rfl (by decide) ?_
                      refine J_aload_n 0 0 1 dX2_parse_164 rfl rfl ?_
                      refine J_iconst 4 dX2_parse_165 (by decide) ?_
                      refine J_iconst 0 dX2_parse_166 (by decide) ?_
                      refine J_aload_n 0 0 1 dX2_parse_167 rfl rfl ?_
                      refine J_getR 1 2 6 Q dX2_parse_168 fl_2_23 rfl rfl (Nat.lt_of_lt_of_le (Nat.le_of_ble_eq_true rfl) hn) rfl ?_
                      refine J_getI Q 1 0 dX2_parse_171 fl_2_59 (layc_Pl_0 hQ) rfl (lt_Pl_0 hQ hn) ?_
                      refine J_iconst 1 dX2_parse_174 (by decide) ?_
                      refine J_isub dX2_parse_175 ?_
                      refine J_callVV 1 2 3 [.int 4, .int 0, .int ((m7 Q 0) - (1 : Int32))] dX2_parse_176 mv_X2_takeRule mv_X2_takeRulev lk_2_55 (ct_X2_takeRule F hn P D Q hQ m7 4 0 ((m7 Q 0) - (1 : Int32))) rfl rfl (by decide) rfl (Nat.lt_of_lt_of_le (Nat.le_of_ble_eq_true rfl) hn) ⟨by decide, by decide⟩ (Nat.le_of_ble_eq_true rfl) (fun m20 => ?_)
                      refine J_goto 187 dX2_parse_179 (by decide) ?_
                      exact J_lv [0, 1] rfl (hEy10 m20)
                    · refine J_split (c1 := 5) (fun hs43_5 => ?_) (fun hs43_5 => ?_)
                      · refine J_tsIn 92 hs43_5 dX2_parse_43 (by decide) (by decide) rfl (by decide) ?_
                        refine J_aload_n 0 0 1 dX2_parse_92 rfl rfl ?_
                        refine J_callVV 1 2 0 [] dX2_parse_93 mv_X2_takeHold mv_X2_takeHoldv lk_2_43 (ct_X2_takeHold F hn P D Q hQ m7) rfl rfl (by decide) rfl (Nat.lt_of_lt_of_le (Nat.le_of_ble_eq_true rfl) hn) ⟨by decide, by decide⟩ (Nat.le_of_ble_eq_true rfl) (fun m22 => ?_)
                        refine J_goto 187 dX2_parse_96 (by decide) ?_
                        exact J_lv [0, 1] rfl (hEy10 m22)
                      · refine J_split (c1 := 6) (fun hs43_6 => ?_) (fun hs43_6 => ?_)
                        · refine J_tsIn 99 hs43_6 dX2_parse_43 (by decide) (by decide) rfl (by decide) ?_
                          refine J_aload_n 0 0 1 dX2_parse_99 rfl rfl ?_
                          refine J_callVV 1 2 0 [] dX2_parse_100 mv_X2_takeDoor mv_X2_takeDoorv lk_2_46 (ct_X2_takeDoor F hn P D Q hQ m7) rfl rfl (by decide) rfl (Nat.lt_of_lt_of_le (Nat.le_of_ble_eq_true rfl) hn) ⟨by decide, by decide⟩ (Nat.le_of_ble_eq_true rfl) (fun m24 => ?_)
                          refine J_goto 187 dX2_parse_103 (by decide) ?_
                          exact J_lv [0, 1] rfl (hEy10 m24)
                        · refine J_split (c1 := 7) (fun hs43_7 => ?_) (fun hs43_7 => ?_)
                          · refine J_tsIn 106 hs43_7 dX2_parse_43 (by decide) (by decide) rfl (by decide) ?_
                            refine J_aload_n 0 0 1 dX2_parse_106 rfl rfl ?_
                            refine J_callVV 1 2 0 [] dX2_parse_107 mv_X2_takeHole mv_X2_takeHolev lk_2_49 (ct_X2_takeHole F hn P D Q hQ m7) rfl rfl (by decide) rfl (Nat.lt_of_lt_of_le (Nat.le_of_ble_eq_true rfl) hn) ⟨by decide, by decide⟩ (Nat.le_of_ble_eq_true rfl) (fun m26 => ?_)
                            refine J_goto 187 dX2_parse_110 (by decide) ?_
                            exact J_lv [0, 1] rfl (hEy10 m26)
                          · refine J_split (c1 := 8) (fun hs43_8 => ?_) (fun hs43_8 => ?_)
                            · refine J_tsIn 113 hs43_8 dX2_parse_43 (by decide) (by decide) rfl (by decide) ?_
                              refine J_aload_n 0 0 1 dX2_parse_113 rfl rfl ?_
                              refine J_callVV 1 2 0 [] dX2_parse_114 mv_X2_takePump mv_X2_takePumpv lk_2_52 (ct_X2_takePump F hn P D Q hQ m7) rfl rfl (by decide) rfl (Nat.lt_of_lt_of_le (Nat.le_of_ble_eq_true rfl) hn) ⟨by decide, by decide⟩ (Nat.le_of_ble_eq_true rfl) (fun m28 => ?_)
                              refine J_goto 187 dX2_parse_117 (by decide) ?_
                              exact J_lv [0, 1] rfl (hEy10 m28)
                            · refine J_tsOut 182 dX2_parse_43 (ts_out [0, 1, 2, 3, 4, 5, 6, 7, 8] (by decide) (by simp only [List.mem_cons, List.not_mem_nil, or_false, forall_eq_or_imp, forall_eq]; exact ⟨hs43_0, hs43_1, hs43_2, hs43_3, hs43_4, hs43_5, hs43_6, hs43_7, hs43_8⟩)) (by decide) ?_
                              refine J_aload_n 0 0 1 dX2_parse_182 rfl rfl ?_
                              refine J_iconst 2 dX2_parse_183 (by decide) ?_
                              refine J_callVV 1 2 1 [.int 2] dX2_parse_184 mv_X2_refuse mv_X2_refusev lk_2_64 (ct_X2_refuse F hn P D (some Q) m7 2) rfl rfl (by decide) rfl (Nat.lt_of_lt_of_le (Nat.le_of_ble_eq_true rfl) hn) ⟨by decide, by decide⟩ (Nat.le_of_ble_eq_true rfl) (fun m30 => ?_)
                              exact J_lv [0, 1] rfl (hEy10 m30)
        · exact J_lv [0] rfl (hXt3 (Sum.inl m7))
def b_X3_weigh_14 (C : Nat) (Q : Nat) (w : Nat) (a3 : Int32) (t2 : Int32 × Int32 × Int32 × Mm) : Option ((Int32 × Int32 × Int32 × Mm) ⊕ (Int32 × Int32 × Mm)) :=
  if (t2.2.2.2 Q 0) ≤ t2.2.2.1 then (some (Sum.inr ((t2.1, t2.2.1, t2.2.2.2)))) else ((if ((a3 >>> (t2.2.2.1 &&& 31)) &&& (1 : Int32)) = (1 : Int32) then ((ald t2.2.2.2 (Q + 1) 8 t2.2.2.1).bind fun x6 => some x6) else ((ald t2.2.2.2 w 8 t2.2.2.1).bind fun x5 => some x5) : Option (Int32)).bind fun y4 => letv (up2 t2.2.2.2 C 0 ((t2.2.2.2 C 0) + y4)) fun m7 => (ald m7 (Q + 2) 8 t2.2.2.1).bind fun x8 => letv (t2.1 + (y4 * (x8 - (1 : Int32)))) fun x9 => (ald m7 (Q + 3) 8 t2.2.2.1).bind fun x10 => letv (t2.2.1 + (y4 * (x10 - (9 : Int32)))) fun x11 => some (Sum.inl (x9, x11, t2.2.2.1 + 1, m7)))
def f_X3_weigh (F : Nat) (m : Mm) (C : Nat) (Q : Nat) (w : Nat) (a3 : Int32) : Option (Mm) :=
  letv (up2 m C 0 0) fun m1 => (iter F (b_X3_weigh_14 C Q w a3) ((0, 0, 0, m1) : Int32 × Int32 × Int32 × Mm)).bind (fun e3 : Int32 × Int32 × Mm => (odiv (iabs e3.1) (2 : Int32)).bind fun x12 => letv (up2 e3.2.2 C 1 x12) fun m13 => (odiv (iabs e3.2.1) (10 : Int32)).bind fun x14 => letv (up2 m13 C 2 x14) fun m15 => some m15)
set_option maxHeartbeats 4000000 in
set_option maxRecDepth 100000 in
theorem ct_X3_weigh (F : Nat) {n : Nat} (hn : 113 ≤ n) (P D : Nat) (T : Option Nat) (m : Mm) (C : Nat) (hC : isSc C) (Q : Nat) (hQ : isPl Q) (w : Nat) (hw : isWt w) (a3 : Int32) : Ct yX3_weigh cX3_weigh 8 none 1 21 [.ref C, .ref Q, .ref w, .int a3] n n m (RF P D T) (rV (RF P D T) (f_X3_weigh F m C Q w a3)) := by
  refine Ct.ofV (own := RX3) (nm := "weigh") [(0, .ref C), (1, .ref Q), (2, .ref w), (3, .int a3)] (by decide) (Nat.le_of_ble_eq_true rfl) rfl rfl rfl ?_
  unfold f_X3_weigh
  refine J_aload_n 0 0 C dX3_weigh_0 rfl rfl ?_
  refine J_iconst 0 dX3_weigh_1 (by decide) ?_
  refine J_putI C 3 0 dX3_weigh_2 fl_3_9 (layc_Sc_0 hC) rfl (lt_Sc_0 hC hn) rfl rfl rfl (fun m1 => ?_)
  refine J_iconst 0 dX3_weigh_5 (by decide) ?_
  refine J_istore 4 [(4, .int 0), (0, .ref C), (1, .ref Q), (2, .ref w), (3, .int a3)] dX3_weigh_6 (by decide) rfl ?_
  refine J_iconst 0 dX3_weigh_8 (by decide) ?_
  refine J_istore 5 [(5, .int 0), (4, .int 0), (0, .ref C), (1, .ref Q), (2, .ref w), (3, .int a3)] dX3_weigh_9 (by decide) rfl ?_
  refine J_iconst 0 dX3_weigh_11 (by decide) ?_
  refine J_istore 6 [(6, .int 0), (5, .int 0), (4, .int 0), (0, .ref C), (1, .ref Q), (2, .ref w), (3, .int a3)] dX3_weigh_12 (by decide) rfl ?_
  refine J_lv [3, 4, 5, 6, 2, 1, 0] rfl ?_
  refine J_loop (pc := 14) (fun t2 : Int32 × Int32 × Int32 × Mm => [(0, .ref C), (1, .ref Q), (2, .ref w), (3, .int a3), (4, .int t2.1), (5, .int t2.2.1), (6, .int t2.2.2.1)]) (fun t2 => t2.2.2.2) (fun _ => 101) (fun e3 => [(0, .ref C), (4, .int e3.1), (5, .int e3.2.1)]) (fun _ => []) (fun e3 => e3.2.2) ?_ (fun t2 k1 hBt2 hXt2 => ?_) F ((0, 0, 0, m1))
  · refine fun e3 => ?_
    refine J_aload_n 0 0 C dX3_weigh_101 rfl rfl ?_
    refine J_iload 4 1 e3.1 dX3_weigh_102 rfl ?_
    refine J_mabs dX3_weigh_104 lk_3_30 (by decide) (Nat.le_of_ble_eq_true rfl) ?_
    refine J_iconst 2 dX3_weigh_107 (by decide) ?_
    refine J_idiv dX3_weigh_108 (fun x12 => ?_)
    refine J_putI C 3 1 dX3_weigh_109 fl_3_36 (layc_Sc_0 hC) rfl (lt_Sc_0 hC hn) rfl rfl rfl (fun m13 => ?_)
    refine J_aload_n 0 0 C dX3_weigh_112 rfl rfl ?_
    refine J_iload 5 2 e3.2.1 dX3_weigh_113 rfl ?_
    refine J_mabs dX3_weigh_115 lk_3_30 (by decide) (Nat.le_of_ble_eq_true rfl) ?_
    refine J_bipush 10 dX3_weigh_118 (by decide) ?_
    refine J_idiv dX3_weigh_120 (fun x14 => ?_)
    refine J_putI C 3 2 dX3_weigh_121 fl_3_39 (layc_Sc_0 hC) rfl (lt_Sc_0 hC hn) rfl rfl rfl (fun m15 => ?_)
    exact J_vretV dX3_weigh_124 rfl rfl
  · unfold b_X3_weigh_14
    refine J_iload 6 6 t2.2.2.1 dX3_weigh_14 rfl ?_
    refine J_aload_n 1 1 Q dX3_weigh_16 rfl rfl ?_
    refine J_getI Q 1 0 dX3_weigh_17 fl_3_15 (layc_Pl_0 hQ) rfl (lt_Pl_0 hQ hn) ?_
    refine J_icmp_ge 101 dX3_weigh_20 (by decide) ?_ ?_
    · exact J_lv [0, 4, 5] rfl (hXt2 ((t2.1, t2.2.1, t2.2.2.2)))
    · refine J_iload_n 3 3 a3 dX3_weigh_23 rfl rfl ?_
      refine J_iload 6 6 t2.2.2.1 dX3_weigh_24 rfl ?_
      refine J_ishr dX3_weigh_26 ?_
      refine J_iconst 1 dX3_weigh_27 (by decide) ?_
      refine J_iand dX3_weigh_28 ?_
      refine J_iconst 1 dX3_weigh_29 (by decide) ?_
      refine J_seqJ 47 (fun y4 : Int32 => [(0, .ref C), (1, .ref Q), (2, .ref w), (3, .int a3), (4, .int t2.1), (5, .int t2.2.1), (6, .int t2.2.2.1)]) (fun y4 => [.int y4]) (fun y4 => t2.2.2.2) (fun y4 => ?_) (fun k1 hEy4 => ?_)
      · refine J_istore 7 [(7, .int y4), (0, .ref C), (1, .ref Q), (2, .ref w), (3, .int a3), (4, .int t2.1), (5, .int t2.2.1), (6, .int t2.2.2.1)] dX3_weigh_47 (by decide) rfl ?_
        refine J_aload_n 0 1 C dX3_weigh_49 rfl rfl ?_
        refine J_dup dX3_weigh_50 rfl ?_
        refine J_getI C 3 0 dX3_weigh_51 fl_3_9 (layc_Sc_0 hC) rfl (lt_Sc_0 hC hn) ?_
        refine J_iload 7 0 y4 dX3_weigh_54 rfl ?_
        refine J_iadd dX3_weigh_56 ?_
        refine J_putI C 3 0 dX3_weigh_57 fl_3_9 (layc_Sc_0 hC) rfl (lt_Sc_0 hC hn) rfl rfl rfl (fun m7 => ?_)
        refine J_iload 4 5 t2.1 dX3_weigh_60 rfl ?_
        refine J_iload 7 0 y4 dX3_weigh_62 rfl ?_
        refine J_aload_n 1 2 Q dX3_weigh_64 rfl rfl ?_
        refine J_getR Q 1 5 (Q + 2) dX3_weigh_65 fl_3_24 (layc_Pl_0 hQ) rfl (lt_Pl_0 hQ hn) (rf_Pl_0_5 hQ) ?_
        refine J_iload 6 7 t2.2.2.1 dX3_weigh_68 rfl ?_
        refine J_iald (Q + 2) 8 dX3_weigh_70 (lay_Pl_2 hQ) (lt_Pl_2 hQ hn) (fun x8 => ?_)
        refine J_iconst 1 dX3_weigh_71 (by decide) ?_
        refine J_isub dX3_weigh_72 ?_
        refine J_imul dX3_weigh_73 ?_
        refine J_iadd dX3_weigh_74 ?_
        refine J_let (fun x9 => ?_)
        refine J_istore 4 [(4, .int x9), (7, .int y4), (0, .ref C), (1, .ref Q), (2, .ref w), (3, .int a3), (5, .int t2.2.1), (6, .int t2.2.2.1)] dX3_weigh_75 (by decide) rfl ?_
        refine J_iload 5 6 t2.2.1 dX3_weigh_77 rfl ?_
        refine J_iload 7 1 y4 dX3_weigh_79 rfl ?_
        refine J_aload_n 1 3 Q dX3_weigh_81 rfl rfl ?_
        refine J_getR Q 1 6 (Q + 3) dX3_weigh_82 fl_3_27 (layc_Pl_0 hQ) rfl (lt_Pl_0 hQ hn) (rf_Pl_0_6 hQ) ?_
        refine J_iload 6 7 t2.2.2.1 dX3_weigh_85 rfl ?_
        refine J_iald (Q + 3) 8 dX3_weigh_87 (lay_Pl_3 hQ) (lt_Pl_3 hQ hn) (fun x10 => ?_)
        refine J_bipush 9 dX3_weigh_88 (by decide) ?_
        refine J_isub dX3_weigh_90 ?_
        refine J_imul dX3_weigh_91 ?_
        refine J_iadd dX3_weigh_92 ?_
        refine J_let (fun x11 => ?_)
        refine J_istore 5 [(5, .int x11), (4, .int x9), (7, .int y4), (0, .ref C), (1, .ref Q), (2, .ref w), (3, .int a3), (6, .int t2.2.2.1)] dX3_weigh_93 (by decide) rfl ?_
        refine J_iinc 6 7 [(6, .int (t2.2.2.1 + 1)), (5, .int x11), (4, .int x9), (7, .int y4), (0, .ref C), (1, .ref Q), (2, .ref w), (3, .int a3)] t2.2.2.1 (t2.2.2.1 + 1) dX3_weigh_95 rfl rfl (by decide) rfl ?_
        refine J_goto 14 dX3_weigh_98 (by decide) ?_
        exact J_lv [4, 5, 6, 7, 2, 1, 0] rfl (hBt2 (x9, x11, t2.2.2.1 + 1, m7))
      · refine J_icmp_ne 43 dX3_weigh_30 (by decide) ?_ ?_
        · refine J_aload_n 2 2 w dX3_weigh_43 rfl rfl ?_
          refine J_iload 6 6 t2.2.2.1 dX3_weigh_44 rfl ?_
          refine J_iald w 8 dX3_weigh_46 hw.1 (Nat.lt_of_lt_of_le hw.2 hn) (fun x5 => ?_)
          exact J_lv [0, 1, 2, 3, 4, 5, 6] rfl (hEy4 x5)
        · refine J_aload_n 1 1 Q dX3_weigh_33 rfl rfl ?_
          refine J_getR Q 1 4 (Q + 1) dX3_weigh_34 fl_3_20 (layc_Pl_0 hQ) rfl (lt_Pl_0 hQ hn) (rf_Pl_0_4 hQ) ?_
          refine J_iload 6 6 t2.2.2.1 dX3_weigh_37 rfl ?_
          refine J_iald (Q + 1) 8 dX3_weigh_39 (lay_Pl_1 hQ) (lt_Pl_1 hQ hn) (fun x6 => ?_)
          refine J_goto 47 dX3_weigh_40 (by decide) ?_
          exact J_lv [0, 1, 2, 3, 4, 5, 6] rfl (hEy4 x6)
def f_X3_whySinks (m : Mm) (C : Nat) (Q : Nat) : Option (Int32) :=
  (ald m (Q + 16) 5 1).bind fun x1 => if (m C 0) < x1 then ((ald m (Q + 16) 5 2).bind fun x2 => if (m C 1) ≤ x2 then ((ald m (Q + 16) 5 3).bind fun x3 => if (m C 2) ≤ x3 then (some 0) else (some 3)) else (some 2)) else (some 1)
set_option maxHeartbeats 4000000 in
set_option maxRecDepth 100000 in
theorem ct_X3_whySinks (F : Nat) {n : Nat} (hn : 113 ≤ n) (P D : Nat) (T : Option Nat) (m : Mm) (C : Nat) (hC : isSc C) (Q : Nat) (hQ : isPl Q) : Ct yX3_whySinks cX3_whySinks 2 (some .int) 0 0 [.ref C, .ref Q] n n m (RF P D T) (rP m (RF P D T) (f_X3_whySinks m C Q)) := by
  refine Ct.ofP (own := RX3) (nm := "whySinks") [(0, .ref C), (1, .ref Q)] (by decide) (Nat.le_of_ble_eq_true rfl) rfl rfl rfl ?_
  unfold f_X3_whySinks
  refine J_aload_n 0 0 C dX3_whySinks_0 rfl rfl ?_
  refine J_getI C 3 0 dX3_whySinks_1 fl_3_9 (layc_Sc_0 hC) rfl (lt_Sc_0 hC hn) ?_
  refine J_aload_n 1 1 Q dX3_whySinks_4 rfl rfl ?_
  refine J_getR Q 1 19 (Q + 16) dX3_whySinks_5 fl_3_42 (layc_Pl_0 hQ) rfl (lt_Pl_0 hQ hn) (rf_Pl_0_19 hQ) ?_
  refine J_iconst 1 dX3_whySinks_8 (by decide) ?_
  refine J_iald (Q + 16) 5 dX3_whySinks_9 (lay_Pl_16 hQ) (lt_Pl_16 hQ hn) (fun x1 => ?_)
  refine J_icmp_lt 15 dX3_whySinks_10 (by decide) ?_ ?_
  · refine J_aload_n 0 0 C dX3_whySinks_15 rfl rfl ?_
    refine J_getI C 3 1 dX3_whySinks_16 fl_3_36 (layc_Sc_0 hC) rfl (lt_Sc_0 hC hn) ?_
    refine J_aload_n 1 1 Q dX3_whySinks_19 rfl rfl ?_
    refine J_getR Q 1 19 (Q + 16) dX3_whySinks_20 fl_3_42 (layc_Pl_0 hQ) rfl (lt_Pl_0 hQ hn) (rf_Pl_0_19 hQ) ?_
    refine J_iconst 2 dX3_whySinks_23 (by decide) ?_
    refine J_iald (Q + 16) 5 dX3_whySinks_24 (lay_Pl_16 hQ) (lt_Pl_16 hQ hn) (fun x2 => ?_)
    refine J_icmp_le 30 dX3_whySinks_25 (by decide) ?_ ?_
    · refine J_aload_n 0 0 C dX3_whySinks_30 rfl rfl ?_
      refine J_getI C 3 2 dX3_whySinks_31 fl_3_39 (layc_Sc_0 hC) rfl (lt_Sc_0 hC hn) ?_
      refine J_aload_n 1 1 Q dX3_whySinks_34 rfl rfl ?_
      refine J_getR Q 1 19 (Q + 16) dX3_whySinks_35 fl_3_42 (layc_Pl_0 hQ) rfl (lt_Pl_0 hQ hn) (rf_Pl_0_19 hQ) ?_
      refine J_iconst 3 dX3_whySinks_38 (by decide) ?_
      refine J_iald (Q + 16) 5 dX3_whySinks_39 (lay_Pl_16 hQ) (lt_Pl_16 hQ hn) (fun x3 => ?_)
      refine J_icmp_le 47 dX3_whySinks_40 (by decide) ?_ ?_
      · refine J_iconst 0 dX3_whySinks_47 (by decide) ?_
        exact J_iretP dX3_whySinks_48 rfl rfl
      · refine J_iconst 3 dX3_whySinks_43 (by decide) ?_
        refine J_goto 48 dX3_whySinks_44 (by decide) ?_
        exact J_iretP dX3_whySinks_48 rfl rfl
    · refine J_iconst 2 dX3_whySinks_28 (by decide) ?_
      exact J_iretP dX3_whySinks_29 rfl rfl
  · refine J_iconst 1 dX3_whySinks_13 (by decide) ?_
    exact J_iretP dX3_whySinks_14 rfl rfl
def f_X4_bestCode (m : Mm) (a1 : Int32) : Option (Int32) :=
  if a1 < 0 then (some (-1)) else (if (3 : Int32) ≤ a1 then (some (-1)) else ((ald m 37 3 a1).bind fun x1 => some x1))
set_option maxHeartbeats 4000000 in
set_option maxRecDepth 100000 in
theorem ct_X4_bestCode (F : Nat) {n : Nat} (hn : 113 ≤ n) (P D : Nat) (T : Option Nat) (m : Mm) (a1 : Int32) : Ct yX4_bestCode cX4_bestCode 2 (some .int) 0 0 [.ref 34, .int a1] n n m (RF P D T) (rP m (RF P D T) (f_X4_bestCode m a1)) := by
  refine Ct.ofP (own := RX4) (nm := "bestCode") [(0, .ref 34), (1, .int a1)] (by decide) (Nat.le_of_ble_eq_true rfl) rfl rfl rfl ?_
  unfold f_X4_bestCode
  refine J_iload_n 1 1 a1 dX4_bestCode_0 rfl rfl ?_
  refine J_if_lt 18 dX4_bestCode_1 (by decide) ?_ ?_
  · refine J_iconst (-1) dX4_bestCode_18 (by decide) ?_
    exact J_iretP dX4_bestCode_19 rfl rfl
  · refine J_iload_n 1 1 a1 dX4_bestCode_4 rfl rfl ?_
    refine J_iconst 3 dX4_bestCode_5 (by decide) ?_
    refine J_icmp_ge 18 dX4_bestCode_6 (by decide) ?_ ?_
    · refine J_iconst (-1) dX4_bestCode_18 (by decide) ?_
      exact J_iretP dX4_bestCode_19 rfl rfl
    · refine J_aload_n 0 0 34 dX4_bestCode_9 rfl rfl ?_
      refine J_getR 34 4 4 37 dX4_bestCode_10 fl_4_18 rfl rfl (Nat.lt_of_lt_of_le (Nat.le_of_ble_eq_true rfl) hn) rfl ?_
      refine J_iload_n 1 1 a1 dX4_bestCode_13 rfl rfl ?_
      refine J_iald 37 3 dX4_bestCode_14 rfl (Nat.lt_of_lt_of_le (Nat.le_of_ble_eq_true rfl) hn) (fun x1 => ?_)
      refine J_goto 19 dX4_bestCode_15 (by decide) ?_
      exact J_iretP dX4_bestCode_19 rfl rfl
def b_X4_fillRow_7  (t2 : Int32 × Int32 × Mm) : Option ((Int32 × Int32 × Mm) ⊕ (Mm)) :=
  if t2.2.1 < 0 then (some (Sum.inr t2.2.2)) else (if (t2.2.2 34 6) ≤ 0 then (some (Sum.inr t2.2.2)) else ((orem t2.1 (t2.2.2 34 6)).bind fun x4 => (ald t2.2.2 35 14 x4).bind fun x5 => (ast t2.2.2 36 3 t2.2.1 x5).bind fun m6 => (odiv t2.1 (m6 34 6)).bind fun x7 => some (Sum.inl (x7, t2.2.1 + (-1), m6))))
def b_X4_fillRow_62 (e3 : Mm) (t8 : Int32) (t11 : Int32) : Option ((Int32) ⊕ ((Unit) ⊕ (Unit))) :=
  if t8 ≤ t11 then (some (Sum.inr (Sum.inr (())))) else ((ald e3 36 3 t8).bind fun x14 => (ald e3 36 3 t11).bind fun x15 => if x14 = x15 then (some (Sum.inr (Sum.inl (())))) else (some (Sum.inl (t11 + 1))))
def b_X4_fillRow_53 (F : Nat) (a2 : Int32) (e3 : Mm) (t8 : Int32) : Option ((Int32) ⊕ ((Unit) ⊕ (Unit))) :=
  if a2 ≤ t8 then (some (Sum.inr (Sum.inr (())))) else ((iter F (b_X4_fillRow_62 e3 t8) (0 : Int32)).bind (Sum.elim (fun e12 : Unit => some (Sum.inr (Sum.inl (())))) (fun e13 : Unit => some (Sum.inl (t8 + 1)))))
def f_X4_fillRow (F : Nat) (m : Mm) (a1 : Int32) (a2 : Int32) : Option (Int32 × Mm) :=
  letv (a2 - (1 : Int32)) fun x1 => (iter F b_X4_fillRow_7 ((a1, x1, m) : Int32 × Int32 × Mm)).bind (fun e3 : Mm => (iter F (b_X4_fillRow_53 F a2 e3) (1 : Int32)).bind (Sum.elim (fun e9 : Unit => some (0, e3)) (fun e10 : Unit => some (1, e3))))
set_option maxHeartbeats 4000000 in
set_option maxRecDepth 100000 in
theorem ct_X4_fillRow (F : Nat) {n : Nat} (hn : 113 ≤ n) (P D : Nat) (T : Option Nat) (m : Mm) (a1 : Int32) (a2 : Int32) : Ct yX4_fillRow cX4_fillRow 6 (some .boolean) 0 0 [.ref 34, .int a1, .int a2] n n m (RF P D T) (rI (RF P D T) (f_X4_fillRow F m a1 a2)) := by
  refine Ct.ofI (own := RX4) (nm := "fillRow") [(0, .ref 34), (1, .int a1), (2, .int a2)] (by decide) (Nat.le_of_ble_eq_true rfl) rfl rfl rfl ?_
  unfold f_X4_fillRow
  refine J_iload_n 1 1 a1 dX4_fillRow_0 rfl rfl ?_
  refine J_istore_n 3 [(3, .int a1), (0, .ref 34), (1, .int a1), (2, .int a2)] dX4_fillRow_1 rfl (by decide) rfl ?_
  refine J_iload_n 2 3 a2 dX4_fillRow_2 rfl rfl ?_
  refine J_iconst 1 dX4_fillRow_3 (by decide) ?_
  refine J_isub dX4_fillRow_4 ?_
  refine J_let (fun x1 => ?_)
  refine J_istore 4 [(4, .int x1), (3, .int a1), (0, .ref 34), (1, .int a1), (2, .int a2)] dX4_fillRow_5 (by decide) rfl ?_
  refine J_lv [2, 4, 1, 0] rfl ?_
  refine J_loop (pc := 7) (fun t2 : Int32 × Int32 × Mm => [(0, .ref 34), (2, .int a2), (3, .int t2.1), (4, .int t2.2.1)]) (fun t2 => t2.2.2) (fun _ => 50) (fun e3 => [(0, .ref 34), (2, .int a2)]) (fun _ => []) (fun e3 => e3) ?_ (fun t2 k1 hBt2 hXt2 => ?_) F ((a1, x1, m))
  · refine fun e3 => ?_
    refine J_iconst 1 dX4_fillRow_50 (by decide) ?_
    refine J_istore 4 [(4, .int 1), (0, .ref 34), (2, .int a2)] dX4_fillRow_51 (by decide) rfl ?_
    refine J_lv [1, 2, 0] rfl ?_
    refine J_loop (pc := 53) (fun t8 : Int32 => [(0, .ref 34), (2, .int a2), (4, .int t8)]) (fun t8 => e3) (Sum.elim (fun _ => 86) (fun _ => 100)) (Sum.elim (fun e9 : Unit => []) (fun e10 : Unit => [])) (fun _ => []) (Sum.elim (fun e9 : Unit => e3) (fun e10 : Unit => e3)) ?_ (fun t8 k1 hBt8 hXt8 => ?_) F 1
    · refine sum_all ?_ ?_
      · intro e9
        dsimp only [Sum.elim_inl, Sum.elim_inr]
        refine J_iconst 0 dX4_fillRow_86 (by decide) ?_
        exact J_zretI dX4_fillRow_87 rfl rfl rfl
      · intro e10
        dsimp only [Sum.elim_inl, Sum.elim_inr]
        refine J_iconst 1 dX4_fillRow_100 (by decide) ?_
        exact J_zretI dX4_fillRow_101 rfl rfl rfl
    · unfold b_X4_fillRow_53
      refine J_iload 4 2 t8 dX4_fillRow_53 rfl ?_
      refine J_iload_n 2 1 a2 dX4_fillRow_55 rfl rfl ?_
      refine J_icmp_ge 100 dX4_fillRow_56 (by decide) ?_ ?_
      · exact J_lv [] rfl (hXt8 (Sum.inr (())))
      · refine J_iconst 0 dX4_fillRow_59 (by decide) ?_
        refine J_istore 5 [(5, .int 0), (0, .ref 34), (2, .int a2), (4, .int t8)] dX4_fillRow_60 (by decide) rfl ?_
        refine J_lv [1, 2, 3, 0] rfl ?_
        refine J_loop (pc := 62) (fun t11 : Int32 => [(0, .ref 34), (2, .int a2), (4, .int t8), (5, .int t11)]) (fun t11 => e3) (Sum.elim (fun _ => 86) (fun _ => 94)) (Sum.elim (fun e12 : Unit => []) (fun e13 : Unit => [(0, .ref 34), (2, .int a2), (4, .int t8)])) (fun _ => []) (Sum.elim (fun e12 : Unit => e3) (fun e13 : Unit => e3)) ?_ (fun t11 k1 hBt11 hXt11 => ?_) F 0
        · refine sum_all ?_ ?_
          · intro e12
            dsimp only [Sum.elim_inl, Sum.elim_inr]
            exact J_lv [] rfl (hXt8 (Sum.inl (())))
          · intro e13
            dsimp only [Sum.elim_inl, Sum.elim_inr]
            refine J_iinc 4 2 [(4, .int (t8 + 1)), (0, .ref 34), (2, .int a2)] t8 (t8 + 1) dX4_fillRow_94 rfl rfl (by decide) rfl ?_
            refine J_goto 53 dX4_fillRow_97 (by decide) ?_
            exact J_lv [1, 2, 0] rfl (hBt8 (t8 + 1))
        · unfold b_X4_fillRow_62
          refine J_iload 5 3 t11 dX4_fillRow_62 rfl ?_
          refine J_iload 4 2 t8 dX4_fillRow_64 rfl ?_
          refine J_icmp_ge 94 dX4_fillRow_66 (by decide) ?_ ?_
          · exact J_lv [0, 1, 2] rfl (hXt11 (Sum.inr (())))
          · refine J_aload_n 0 0 34 dX4_fillRow_69 rfl rfl ?_
            refine J_getR 34 4 3 36 dX4_fillRow_70 fl_4_15 rfl rfl (Nat.lt_of_lt_of_le (Nat.le_of_ble_eq_true rfl) hn) rfl ?_
            refine J_iload 4 2 t8 dX4_fillRow_73 rfl ?_
            refine J_iald 36 3 dX4_fillRow_75 rfl (Nat.lt_of_lt_of_le (Nat.le_of_ble_eq_true rfl) hn) (fun x14 => ?_)
            refine J_aload_n 0 0 34 dX4_fillRow_76 rfl rfl ?_
            refine J_getR 34 4 3 36 dX4_fillRow_77 fl_4_15 rfl rfl (Nat.lt_of_lt_of_le (Nat.le_of_ble_eq_true rfl) hn) rfl ?_
            refine J_iload 5 3 t11 dX4_fillRow_80 rfl ?_
            refine J_iald 36 3 dX4_fillRow_82 rfl (Nat.lt_of_lt_of_le (Nat.le_of_ble_eq_true rfl) hn) (fun x15 => ?_)
            refine J_icmp_ne 88 dX4_fillRow_83 (by decide) ?_ ?_
            · refine J_iinc 5 3 [(5, .int (t11 + 1)), (0, .ref 34), (2, .int a2), (4, .int t8)] t11 (t11 + 1) dX4_fillRow_88 rfl rfl (by decide) rfl ?_
              refine J_goto 62 dX4_fillRow_91 (by decide) ?_
              exact J_lv [1, 2, 3, 0] rfl (hBt11 (t11 + 1))
            · exact J_lv [] rfl (hXt11 (Sum.inl (())))
  · unfold b_X4_fillRow_7
    refine J_iload 4 3 t2.2.1 dX4_fillRow_7 rfl ?_
    refine J_if_lt 50 dX4_fillRow_9 (by decide) ?_ ?_
    · exact J_lv [0, 1] rfl (hXt2 t2.2.2)
    · refine J_aload_n 0 0 34 dX4_fillRow_12 rfl rfl ?_
      refine J_getI 34 4 6 dX4_fillRow_13 fl_4_32 rfl rfl (Nat.lt_of_lt_of_le (Nat.le_of_ble_eq_true rfl) hn) ?_
      refine J_if_le 50 dX4_fillRow_16 (by decide) ?_ ?_
      · exact J_lv [0, 1] rfl (hXt2 t2.2.2)
      · refine J_aload_n 0 0 34 dX4_fillRow_19 rfl rfl ?_
        refine J_getR 34 4 3 36 dX4_fillRow_20 fl_4_15 rfl rfl (Nat.lt_of_lt_of_le (Nat.le_of_ble_eq_true rfl) hn) rfl ?_
        refine J_iload 4 3 t2.2.1 dX4_fillRow_23 rfl ?_
        refine J_aload_n 0 0 34 dX4_fillRow_25 rfl rfl ?_
        refine J_getR 34 4 2 35 dX4_fillRow_26 fl_4_9 rfl rfl (Nat.lt_of_lt_of_le (Nat.le_of_ble_eq_true rfl) hn) rfl ?_
        refine J_iload_n 3 2 t2.1 dX4_fillRow_29 rfl rfl ?_
        refine J_aload_n 0 0 34 dX4_fillRow_30 rfl rfl ?_
        refine J_getI 34 4 6 dX4_fillRow_31 fl_4_32 rfl rfl (Nat.lt_of_lt_of_le (Nat.le_of_ble_eq_true rfl) hn) ?_
        refine J_irem dX4_fillRow_34 (fun x4 => ?_)
        refine J_iald 35 14 dX4_fillRow_35 rfl (Nat.lt_of_lt_of_le (Nat.le_of_ble_eq_true rfl) hn) (fun x5 => ?_)
        refine J_iast 36 3 dX4_fillRow_36 rfl (Nat.lt_of_lt_of_le (Nat.le_of_ble_eq_true rfl) hn) (fun m6 => ?_)
        refine J_iload_n 3 2 t2.1 dX4_fillRow_37 rfl rfl ?_
        refine J_aload_n 0 0 34 dX4_fillRow_38 rfl rfl ?_
        refine J_getI 34 4 6 dX4_fillRow_39 fl_4_32 rfl rfl (Nat.lt_of_lt_of_le (Nat.le_of_ble_eq_true rfl) hn) ?_
        refine J_idiv dX4_fillRow_42 (fun x7 => ?_)
        refine J_istore_n 3 [(3, .int x7), (0, .ref 34), (2, .int a2), (4, .int t2.2.1)] dX4_fillRow_43 rfl (by decide) rfl ?_
        refine J_iinc 4 3 [(4, .int (t2.2.1 + (-1))), (3, .int x7), (0, .ref 34), (2, .int a2)] t2.2.1 (t2.2.1 + (-1)) dX4_fillRow_44 rfl rfl (by decide) rfl ?_
        refine J_goto 7 dX4_fillRow_47 (by decide) ?_
        exact J_lv [2, 3, 1, 0] rfl (hBt2 (x7, t2.2.1 + (-1), m6))
def f_X8_minutesFor (m : Mm) (Q : Nat) (a1 : Int32) (a2 : Int32) : Option (Int32) :=
  if a1 = 0 then ((ald m (Q + 9) 10 a2).bind fun x1 => some x1) else (if a1 = 1 then ((ald m (Q + 9) 10 a2).bind fun x2 => some x2) else (if a1 = 2 then ((ald m (Q + 13) 4 a2).bind fun x3 => some x3) else (some 1)))
set_option maxHeartbeats 4000000 in
set_option maxRecDepth 100000 in
theorem ct_X8_minutesFor (F : Nat) {n : Nat} (hn : 113 ≤ n) (P D : Nat) (T : Option Nat) (m : Mm) (Q : Nat) (hQ : isPl Q) (a1 : Int32) (a2 : Int32) : Ct yX8_minutesFor cX8_minutesFor 3 (some .int) 0 0 [.ref Q, .int a1, .int a2] n n m (RF P D T) (rP m (RF P D T) (f_X8_minutesFor m Q a1 a2)) := by
  refine Ct.ofP (own := RX8) (nm := "minutesFor") [(0, .ref Q), (1, .int a1), (2, .int a2)] (by decide) (Nat.le_of_ble_eq_true rfl) rfl rfl rfl ?_
  unfold f_X8_minutesFor
  refine J_iload_n 1 1 a1 dX8_minutesFor_0 rfl rfl ?_
  refine J_split (c1 := 0) (fun hs1_0 => ?_) (fun hs1_0 => ?_)
  · refine J_tsIn 28 hs1_0 dX8_minutesFor_1 (by decide) (by decide) rfl (by decide) ?_
    refine J_aload_n 0 0 Q dX8_minutesFor_28 rfl rfl ?_
    refine J_getR Q 1 12 (Q + 9) dX8_minutesFor_29 fl_8_148 (layc_Pl_0 hQ) rfl (lt_Pl_0 hQ hn) (rf_Pl_0_12 hQ) ?_
    refine J_iload_n 2 2 a2 dX8_minutesFor_32 rfl rfl ?_
    refine J_iald (Q + 9) 10 dX8_minutesFor_33 (lay_Pl_9 hQ) (lt_Pl_9 hQ hn) (fun x1 => ?_)
    exact J_iretP dX8_minutesFor_34 rfl rfl
  · refine J_split (c1 := 1) (fun hs1_1 => ?_) (fun hs1_1 => ?_)
    · refine J_tsIn 28 hs1_1 dX8_minutesFor_1 (by decide) (by decide) rfl (by decide) ?_
      refine J_aload_n 0 0 Q dX8_minutesFor_28 rfl rfl ?_
      refine J_getR Q 1 12 (Q + 9) dX8_minutesFor_29 fl_8_148 (layc_Pl_0 hQ) rfl (lt_Pl_0 hQ hn) (rf_Pl_0_12 hQ) ?_
      refine J_iload_n 2 2 a2 dX8_minutesFor_32 rfl rfl ?_
      refine J_iald (Q + 9) 10 dX8_minutesFor_33 (lay_Pl_9 hQ) (lt_Pl_9 hQ hn) (fun x2 => ?_)
      exact J_iretP dX8_minutesFor_34 rfl rfl
    · refine J_split (c1 := 2) (fun hs1_2 => ?_) (fun hs1_2 => ?_)
      · refine J_tsIn 35 hs1_2 dX8_minutesFor_1 (by decide) (by decide) rfl (by decide) ?_
        refine J_aload_n 0 0 Q dX8_minutesFor_35 rfl rfl ?_
        refine J_getR Q 1 16 (Q + 13) dX8_minutesFor_36 fl_8_172 (layc_Pl_0 hQ) rfl (lt_Pl_0 hQ hn) (rf_Pl_0_16 hQ) ?_
        refine J_iload_n 2 2 a2 dX8_minutesFor_39 rfl rfl ?_
        refine J_iald (Q + 13) 4 dX8_minutesFor_40 (lay_Pl_13 hQ) (lt_Pl_13 hQ hn) (fun x3 => ?_)
        exact J_iretP dX8_minutesFor_41 rfl rfl
      · refine J_tsOut 42 dX8_minutesFor_1 (ts_out [0, 1, 2] (by decide) (by simp only [List.mem_cons, List.not_mem_nil, or_false, forall_eq_or_imp, forall_eq]; exact ⟨hs1_0, hs1_1, hs1_2⟩)) (by decide) ?_
        refine J_iconst 1 dX8_minutesFor_42 (by decide) ?_
        exact J_iretP dX8_minutesFor_43 rfl rfl

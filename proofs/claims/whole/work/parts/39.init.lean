theorem dX8_init_0 : decode cX8_init 0 = .ok (.aload_n 0, 1) := by decide +kernel
theorem dX8_init_1 : decode cX8_init 1 = .ok (.invokespecial 1, 3) := by decide +kernel
theorem lo_8_1 : Cond.methodLink RX8 1 objectInit ∈ TBg := tb 24 (by decide +kernel) rfl
theorem dX8_init_4 : decode cX8_init 4 = .ok (.aload_n 0, 1) := by decide +kernel
theorem dX8_init_5 : decode cX8_init 5 = .ok (.new 7, 3) := by decide +kernel
theorem cl_8_7 : Cond.classLink RX8 7 RX2 ∈ TBg := tb 27 (by decide +kernel) rfl
theorem ins_2 : Cond.instantiable RX2 10 ∈ TBg := tb 28 (by decide +kernel) rfl
theorem ini_2 : Cond.initialized RX2 ∈ TBg := tb 2 (by decide +kernel) rfl
theorem dX8_init_8 : decode cX8_init 8 = .ok (.dup, 1) := by decide +kernel
theorem dX8_init_9 : decode cX8_init 9 = .ok (.invokespecial 9, 3) := by decide +kernel
theorem mv_X2_init : MV yX2_init cX2_init 1 none 0 := ⟨tb 31 (by decide +kernel) rfl, tb 2 (by decide +kernel) rfl, by decide +kernel⟩
theorem mvI_X2_init : Cond.instanceMethod yX2_init ∈ TBg := tb 30 (by decide +kernel) rfl
theorem ln_8_9 : Cond.methodLinkNest RX8 9 yX2_init "WhichHold" ∈ NWl := tbN 29 (by decide +kernel) rfl
theorem dX8_init_12 : decode cX8_init 12 = .ok (.putfield 10, 3) := by decide +kernel
theorem dX8_init_15 : decode cX8_init 15 = .ok (.aload_n 0, 1) := by decide +kernel
theorem dX8_init_16 : decode cX8_init 16 = .ok (.new 16, 3) := by decide +kernel
theorem cl_8_16 : Cond.classLink RX8 16 RX7 ∈ TBg := tb 70 (by decide +kernel) rfl
theorem ins_7 : Cond.instantiable RX7 11 ∈ TBg := tb 71 (by decide +kernel) rfl
theorem ini_7 : Cond.initialized RX7 ∈ TBg := tb 3 (by decide +kernel) rfl
theorem dX8_init_19 : decode cX8_init 19 = .ok (.dup, 1) := by decide +kernel
theorem dX8_init_20 : decode cX8_init 20 = .ok (.invokespecial 18, 3) := by decide +kernel
theorem mv_X7_init : MV yX7_init cX7_init 1 none 0 := ⟨tb 74 (by decide +kernel) rfl, tb 3 (by decide +kernel) rfl, by decide +kernel⟩
theorem mvI_X7_init : Cond.instanceMethod yX7_init ∈ TBg := tb 73 (by decide +kernel) rfl
theorem ln_8_18 : Cond.methodLinkNest RX8 18 yX7_init "WhichHold" ∈ NWl := tbN 72 (by decide +kernel) rfl
theorem dX8_init_23 : decode cX8_init 23 = .ok (.putfield 19, 3) := by decide +kernel
theorem dX8_init_26 : decode cX8_init 26 = .ok (.aload_n 0, 1) := by decide +kernel
theorem dX8_init_27 : decode cX8_init 27 = .ok (.new 16, 3) := by decide +kernel
theorem dX8_init_30 : decode cX8_init 30 = .ok (.dup, 1) := by decide +kernel
theorem dX8_init_31 : decode cX8_init 31 = .ok (.invokespecial 18, 3) := by decide +kernel
theorem dX8_init_34 : decode cX8_init 34 = .ok (.putfield 23, 3) := by decide +kernel
theorem dX8_init_37 : decode cX8_init 37 = .ok (.aload_n 0, 1) := by decide +kernel
theorem dX8_init_38 : decode cX8_init 38 = .ok (.iconst 2, 1) := by decide +kernel
theorem dX8_init_39 : decode cX8_init 39 = .ok (.anewarray 16, 3) := by decide +kernel
theorem ao_7 : Cond.arrayOver (.object RX7) ∈ NWl := tbN 188 (by decide +kernel) rfl
theorem dX8_init_42 : decode cX8_init 42 = .ok (.putfield 26, 3) := by decide +kernel
theorem dX8_init_45 : decode cX8_init 45 = .ok (.aload_n 0, 1) := by decide +kernel
theorem dX8_init_46 : decode cX8_init 46 = .ok (.iconst 2, 1) := by decide +kernel
theorem dX8_init_47 : decode cX8_init 47 = .ok (.newarray .boolean, 2) := by decide +kernel
theorem dX8_init_49 : decode cX8_init 49 = .ok (.putfield 30, 3) := by decide +kernel
theorem dX8_init_52 : decode cX8_init 52 = .ok (.aload_n 0, 1) := by decide +kernel
theorem dX8_init_53 : decode cX8_init 53 = .ok (.new 34, 3) := by decide +kernel
theorem cl_8_34 : Cond.classLink RX8 34 RX4 ∈ TBg := tb 189 (by decide +kernel) rfl
theorem ins_4 : Cond.instantiable RX4 10 ∈ TBg := tb 190 (by decide +kernel) rfl
theorem ini_4 : Cond.initialized RX4 ∈ TBg := tb 6 (by decide +kernel) rfl
theorem dX8_init_56 : decode cX8_init 56 = .ok (.dup, 1) := by decide +kernel
theorem dX8_init_57 : decode cX8_init 57 = .ok (.invokespecial 36, 3) := by decide +kernel
theorem mv_X4_init : MV yX4_init cX4_init 1 none 0 := ⟨tb 193 (by decide +kernel) rfl, tb 6 (by decide +kernel) rfl, by decide +kernel⟩
theorem mvI_X4_init : Cond.instanceMethod yX4_init ∈ TBg := tb 192 (by decide +kernel) rfl
theorem ln_8_36 : Cond.methodLinkNest RX8 36 yX4_init "WhichHold" ∈ NWl := tbN 191 (by decide +kernel) rfl
theorem dX8_init_60 : decode cX8_init 60 = .ok (.putfield 37, 3) := by decide +kernel
theorem dX8_init_63 : decode cX8_init 63 = .ok (.aload_n 0, 1) := by decide +kernel
theorem dX8_init_64 : decode cX8_init 64 = .ok (.new 41, 3) := by decide +kernel
theorem cl_8_41 : Cond.classLink RX8 41 RX3 ∈ TBg := tb 228 (by decide +kernel) rfl
theorem dX8_init_67 : decode cX8_init 67 = .ok (.dup, 1) := by decide +kernel
theorem dX8_init_68 : decode cX8_init 68 = .ok (.invokespecial 43, 3) := by decide +kernel
theorem ln_8_43 : Cond.methodLinkNest RX8 43 yX3_init "WhichHold" ∈ NWl := tbN 229 (by decide +kernel) rfl
theorem dX8_init_71 : decode cX8_init 71 = .ok (.putfield 44, 3) := by decide +kernel
theorem dX8_init_74 : decode cX8_init 74 = .ok (.aload_n 0, 1) := by decide +kernel
theorem dX8_init_75 : decode cX8_init 75 = .ok (.new 48, 3) := by decide +kernel
theorem cl_8_48 : Cond.classLink RX8 48 RX6 ∈ TBg := tb 230 (by decide +kernel) rfl
theorem ins_6 : Cond.instantiable RX6 2 ∈ TBg := tb 231 (by decide +kernel) rfl
theorem ini_6 : Cond.initialized RX6 ∈ TBg := tb 7 (by decide +kernel) rfl
theorem dX8_init_78 : decode cX8_init 78 = .ok (.dup, 1) := by decide +kernel
theorem dX8_init_79 : decode cX8_init 79 = .ok (.invokespecial 50, 3) := by decide +kernel
theorem mv_X6_init : MV yX6_init cX6_init 1 none 0 := ⟨tb 234 (by decide +kernel) rfl, tb 7 (by decide +kernel) rfl, by decide +kernel⟩
theorem mvI_X6_init : Cond.instanceMethod yX6_init ∈ TBg := tb 233 (by decide +kernel) rfl
theorem ln_8_50 : Cond.methodLinkNest RX8 50 yX6_init "WhichHold" ∈ NWl := tbN 232 (by decide +kernel) rfl
theorem dX8_init_82 : decode cX8_init 82 = .ok (.putfield 51, 3) := by decide +kernel
theorem dX8_init_85 : decode cX8_init 85 = .ok (.aload_n 0, 1) := by decide +kernel
theorem dX8_init_86 : decode cX8_init 86 = .ok (.iconst 4, 1) := by decide +kernel
theorem dX8_init_87 : decode cX8_init 87 = .ok (.anewarray 55, 3) := by decide +kernel
theorem cl_8_55 : Cond.classLink RX8 55 RX5 ∈ TBg := tb 244 (by decide +kernel) rfl
theorem ao_5 : Cond.arrayOver (.object RX5) ∈ NWl := tbN 245 (by decide +kernel) rfl
theorem dX8_init_90 : decode cX8_init 90 = .ok (.putfield 57, 3) := by decide +kernel
theorem dX8_init_93 : decode cX8_init 93 = .ok (.aload_n 0, 1) := by decide +kernel
theorem dX8_init_94 : decode cX8_init 94 = .ok (.new 61, 3) := by decide +kernel
theorem cl_8_61 : Cond.classLink RX8 61 RX1 ∈ TBg := tb 246 (by decide +kernel) rfl
theorem ins_1 : Cond.instantiable RX1 20 ∈ TBg := tb 247 (by decide +kernel) rfl
theorem ini_1 : Cond.initialized RX1 ∈ TBg := tb 8 (by decide +kernel) rfl
theorem dX8_init_97 : decode cX8_init 97 = .ok (.dup, 1) := by decide +kernel
theorem dX8_init_98 : decode cX8_init 98 = .ok (.invokespecial 63, 3) := by decide +kernel
theorem mv_X1_init : MV yX1_init cX1_init 1 none 0 := ⟨tb 250 (by decide +kernel) rfl, tb 8 (by decide +kernel) rfl, by decide +kernel⟩
theorem mvI_X1_init : Cond.instanceMethod yX1_init ∈ TBg := tb 249 (by decide +kernel) rfl
theorem ln_8_63 : Cond.methodLinkNest RX8 63 yX1_init "WhichHold" ∈ NWl := tbN 248 (by decide +kernel) rfl
theorem dX8_init_101 : decode cX8_init 101 = .ok (.putfield 64, 3) := by decide +kernel
theorem dX8_init_104 : decode cX8_init 104 = .ok (.aload_n 0, 1) := by decide +kernel
theorem dX8_init_105 : decode cX8_init 105 = .ok (.new 61, 3) := by decide +kernel
theorem dX8_init_108 : decode cX8_init 108 = .ok (.dup, 1) := by decide +kernel
theorem dX8_init_109 : decode cX8_init 109 = .ok (.invokespecial 63, 3) := by decide +kernel
theorem dX8_init_112 : decode cX8_init 112 = .ok (.putfield 68, 3) := by decide +kernel
theorem dX8_init_115 : decode cX8_init 115 = .ok (.iconst 0, 1) := by decide +kernel
theorem dX8_init_116 : decode cX8_init 116 = .ok (.istore_n 1, 1) := by decide +kernel
theorem dX8_init_117 : decode cX8_init 117 = .ok (.iload_n 1, 1) := by decide +kernel
theorem dX8_init_118 : decode cX8_init 118 = .ok (.iconst 2, 1) := by decide +kernel
theorem dX8_init_119 : decode cX8_init 119 = .ok (.if_icmp .ge 22, 3) := by decide +kernel
theorem dX8_init_122 : decode cX8_init 122 = .ok (.aload_n 0, 1) := by decide +kernel
theorem dX8_init_123 : decode cX8_init 123 = .ok (.getfield 26, 3) := by decide +kernel
theorem dX8_init_126 : decode cX8_init 126 = .ok (.iload_n 1, 1) := by decide +kernel
theorem dX8_init_127 : decode cX8_init 127 = .ok (.new 16, 3) := by decide +kernel
theorem dX8_init_130 : decode cX8_init 130 = .ok (.dup, 1) := by decide +kernel
theorem dX8_init_131 : decode cX8_init 131 = .ok (.invokespecial 18, 3) := by decide +kernel
theorem dX8_init_134 : decode cX8_init 134 = .ok (.aastore, 1) := by decide +kernel
theorem dX8_init_135 : decode cX8_init 135 = .ok (.iinc 1 1, 3) := by decide +kernel
theorem dX8_init_138 : decode cX8_init 138 = .ok (.goto (-21), 3) := by decide +kernel
theorem dX8_init_141 : decode cX8_init 141 = .ok (.iconst 0, 1) := by decide +kernel
theorem dX8_init_142 : decode cX8_init 142 = .ok (.istore_n 1, 1) := by decide +kernel
theorem dX8_init_143 : decode cX8_init 143 = .ok (.iload_n 1, 1) := by decide +kernel
theorem dX8_init_144 : decode cX8_init 144 = .ok (.iconst 4, 1) := by decide +kernel
theorem dX8_init_145 : decode cX8_init 145 = .ok (.if_icmp .ge 22, 3) := by decide +kernel
theorem dX8_init_148 : decode cX8_init 148 = .ok (.aload_n 0, 1) := by decide +kernel
theorem dX8_init_149 : decode cX8_init 149 = .ok (.getfield 57, 3) := by decide +kernel
theorem dX8_init_152 : decode cX8_init 152 = .ok (.iload_n 1, 1) := by decide +kernel
theorem dX8_init_153 : decode cX8_init 153 = .ok (.new 55, 3) := by decide +kernel
theorem ins_5 : Cond.instantiable RX5 3 ∈ TBg := tb 374 (by decide +kernel) rfl
theorem ini_5 : Cond.initialized RX5 ∈ TBg := tb 9 (by decide +kernel) rfl
theorem dX8_init_156 : decode cX8_init 156 = .ok (.dup, 1) := by decide +kernel
theorem dX8_init_157 : decode cX8_init 157 = .ok (.invokespecial 71, 3) := by decide +kernel
theorem mv_X5_init : MV yX5_init cX5_init 1 none 0 := ⟨tb 377 (by decide +kernel) rfl, tb 9 (by decide +kernel) rfl, by decide +kernel⟩
theorem mvI_X5_init : Cond.instanceMethod yX5_init ∈ TBg := tb 376 (by decide +kernel) rfl
theorem ln_8_71 : Cond.methodLinkNest RX8 71 yX5_init "WhichHold" ∈ NWl := tbN 375 (by decide +kernel) rfl
theorem dX8_init_160 : decode cX8_init 160 = .ok (.aastore, 1) := by decide +kernel
theorem dX8_init_161 : decode cX8_init 161 = .ok (.iinc 1 1, 3) := by decide +kernel
theorem dX8_init_164 : decode cX8_init 164 = .ok (.goto (-21), 3) := by decide +kernel
theorem dX8_init_167 : decode cX8_init 167 = .ok (.aload_n 0, 1) := by decide +kernel
theorem dX8_init_168 : decode cX8_init 168 = .ok (.getfield 64, 3) := by decide +kernel
theorem dX8_init_171 : decode cX8_init 171 = .ok (.invokevirtual 72, 3) := by decide +kernel
theorem dX8_init_174 : decode cX8_init 174 = .ok (.aload_n 0, 1) := by decide +kernel
theorem dX8_init_175 : decode cX8_init 175 = .ok (.getfield 19, 3) := by decide +kernel
theorem dX8_init_178 : decode cX8_init 178 = .ok (.aload_n 0, 1) := by decide +kernel
theorem dX8_init_179 : decode cX8_init 179 = .ok (.getfield 64, 3) := by decide +kernel
theorem dX8_init_182 : decode cX8_init 182 = .ok (.invokevirtual 75, 3) := by decide +kernel
theorem dX8_init_185 : decode cX8_init 185 = .ok (.return_, 1) := by decide +kernel
theorem lk_8_72 : Cond.methodLink RX8 72 yX1_clear ∈ TBg := tb 392 (by decide +kernel) rfl
theorem dX9_init_0 : decode cX9_init 0 = .ok (.aload_n 0, 1) := by decide +kernel
theorem dX9_init_1 : decode cX9_init 1 = .ok (.invokespecial 1, 3) := by decide +kernel
theorem lo_9_1 : Cond.methodLink RX9 1 objectInit ∈ TBg := tb 990 (by decide +kernel) rfl
theorem dX9_init_4 : decode cX9_init 4 = .ok (.aload_n 0, 1) := by decide +kernel
theorem dX9_init_5 : decode cX9_init 5 = .ok (.sipush 512, 3) := by decide +kernel
theorem dX9_init_8 : decode cX9_init 8 = .ok (.newarray .int, 2) := by decide +kernel
theorem dX9_init_10 : decode cX9_init 10 = .ok (.putfield 7, 3) := by decide +kernel
theorem dX9_init_13 : decode cX9_init 13 = .ok (.aload_n 0, 1) := by decide +kernel
theorem dX9_init_14 : decode cX9_init 14 = .ok (.iconst 2, 1) := by decide +kernel
theorem dX9_init_15 : decode cX9_init 15 = .ok (.newarray .boolean, 2) := by decide +kernel
theorem dX9_init_17 : decode cX9_init 17 = .ok (.putfield 13, 3) := by decide +kernel
theorem dX9_init_20 : decode cX9_init 20 = .ok (.aload_n 0, 1) := by decide +kernel
theorem dX9_init_21 : decode cX9_init 21 = .ok (.bipush 32, 2) := by decide +kernel
theorem dX9_init_23 : decode cX9_init 23 = .ok (.newarray .int, 2) := by decide +kernel
theorem dX9_init_25 : decode cX9_init 25 = .ok (.putfield 17, 3) := by decide +kernel
theorem dX9_init_28 : decode cX9_init 28 = .ok (.aload_n 0, 1) := by decide +kernel
theorem dX9_init_29 : decode cX9_init 29 = .ok (.bipush 60, 2) := by decide +kernel
theorem dX9_init_31 : decode cX9_init 31 = .ok (.newarray .int, 2) := by decide +kernel
theorem dX9_init_33 : decode cX9_init 33 = .ok (.putfield 20, 3) := by decide +kernel
theorem dX9_init_36 : decode cX9_init 36 = .ok (.aload_n 0, 1) := by decide +kernel
theorem dX9_init_37 : decode cX9_init 37 = .ok (.bipush 12, 2) := by decide +kernel
theorem dX9_init_39 : decode cX9_init 39 = .ok (.newarray .int, 2) := by decide +kernel
theorem dX9_init_41 : decode cX9_init 41 = .ok (.putfield 23, 3) := by decide +kernel
theorem dX9_init_44 : decode cX9_init 44 = .ok (.aload_n 0, 1) := by decide +kernel
theorem dX9_init_45 : decode cX9_init 45 = .ok (.bipush 6, 2) := by decide +kernel
theorem dX9_init_47 : decode cX9_init 47 = .ok (.newarray .int, 2) := by decide +kernel
theorem dX9_init_49 : decode cX9_init 49 = .ok (.putfield 26, 3) := by decide +kernel
theorem dX9_init_52 : decode cX9_init 52 = .ok (.aload_n 0, 1) := by decide +kernel
theorem dX9_init_53 : decode cX9_init 53 = .ok (.iconst 5, 1) := by decide +kernel
theorem dX9_init_54 : decode cX9_init 54 = .ok (.newarray .int, 2) := by decide +kernel
theorem dX9_init_56 : decode cX9_init 56 = .ok (.putfield 29, 3) := by decide +kernel
theorem dX9_init_59 : decode cX9_init 59 = .ok (.aload_n 0, 1) := by decide +kernel
theorem dX9_init_60 : decode cX9_init 60 = .ok (.bipush 32, 2) := by decide +kernel
theorem dX9_init_62 : decode cX9_init 62 = .ok (.newarray .int, 2) := by decide +kernel
theorem dX9_init_64 : decode cX9_init 64 = .ok (.putfield 32, 3) := by decide +kernel
theorem dX9_init_67 : decode cX9_init 67 = .ok (.aload_n 0, 1) := by decide +kernel
theorem dX9_init_68 : decode cX9_init 68 = .ok (.bipush 60, 2) := by decide +kernel
theorem dX9_init_70 : decode cX9_init 70 = .ok (.newarray .int, 2) := by decide +kernel
theorem dX9_init_72 : decode cX9_init 72 = .ok (.putfield 35, 3) := by decide +kernel
theorem dX9_init_75 : decode cX9_init 75 = .ok (.aload_n 0, 1) := by decide +kernel
theorem dX9_init_76 : decode cX9_init 76 = .ok (.bipush 12, 2) := by decide +kernel
theorem dX9_init_78 : decode cX9_init 78 = .ok (.newarray .int, 2) := by decide +kernel
theorem dX9_init_80 : decode cX9_init 80 = .ok (.putfield 38, 3) := by decide +kernel
theorem dX9_init_83 : decode cX9_init 83 = .ok (.aload_n 0, 1) := by decide +kernel
theorem dX9_init_84 : decode cX9_init 84 = .ok (.bipush 6, 2) := by decide +kernel
theorem dX9_init_86 : decode cX9_init 86 = .ok (.newarray .int, 2) := by decide +kernel
theorem dX9_init_88 : decode cX9_init 88 = .ok (.putfield 41, 3) := by decide +kernel
theorem dX9_init_91 : decode cX9_init 91 = .ok (.aload_n 0, 1) := by decide +kernel
theorem dX9_init_92 : decode cX9_init 92 = .ok (.iconst 5, 1) := by decide +kernel
theorem dX9_init_93 : decode cX9_init 93 = .ok (.newarray .int, 2) := by decide +kernel
theorem dX9_init_95 : decode cX9_init 95 = .ok (.putfield 44, 3) := by decide +kernel
theorem dX9_init_98 : decode cX9_init 98 = .ok (.aload_n 0, 1) := by decide +kernel
theorem dX9_init_99 : decode cX9_init 99 = .ok (.iconst 5, 1) := by decide +kernel
theorem dX9_init_100 : decode cX9_init 100 = .ok (.newarray .boolean, 2) := by decide +kernel
theorem dX9_init_102 : decode cX9_init 102 = .ok (.putfield 47, 3) := by decide +kernel
theorem dX9_init_105 : decode cX9_init 105 = .ok (.aload_n 0, 1) := by decide +kernel
theorem dX9_init_106 : decode cX9_init 106 = .ok (.sipush 400, 3) := by decide +kernel
theorem dX9_init_109 : decode cX9_init 109 = .ok (.newarray .int, 2) := by decide +kernel
theorem dX9_init_111 : decode cX9_init 111 = .ok (.putfield 50, 3) := by decide +kernel
theorem dX9_init_114 : decode cX9_init 114 = .ok (.aload_n 0, 1) := by decide +kernel
theorem dX9_init_115 : decode cX9_init 115 = .ok (.bipush 14, 2) := by decide +kernel
theorem dX9_init_117 : decode cX9_init 117 = .ok (.newarray .int, 2) := by decide +kernel
theorem dX9_init_119 : decode cX9_init 119 = .ok (.putfield 53, 3) := by decide +kernel
theorem dX9_init_122 : decode cX9_init 122 = .ok (.aload_n 0, 1) := by decide +kernel
theorem dX9_init_123 : decode cX9_init 123 = .ok (.iconst 3, 1) := by decide +kernel
theorem dX9_init_124 : decode cX9_init 124 = .ok (.newarray .int, 2) := by decide +kernel
theorem dX9_init_126 : decode cX9_init 126 = .ok (.putfield 56, 3) := by decide +kernel
theorem dX9_init_129 : decode cX9_init 129 = .ok (.aload_n 0, 1) := by decide +kernel
theorem dX9_init_130 : decode cX9_init 130 = .ok (.iconst 3, 1) := by decide +kernel
theorem dX9_init_131 : decode cX9_init 131 = .ok (.newarray .int, 2) := by decide +kernel
theorem dX9_init_133 : decode cX9_init 133 = .ok (.putfield 59, 3) := by decide +kernel
theorem dX9_init_136 : decode cX9_init 136 = .ok (.aload_n 0, 1) := by decide +kernel
theorem dX9_init_137 : decode cX9_init 137 = .ok (.bipush 8, 2) := by decide +kernel
theorem dX9_init_139 : decode cX9_init 139 = .ok (.newarray .int, 2) := by decide +kernel
theorem dX9_init_141 : decode cX9_init 141 = .ok (.putfield 62, 3) := by decide +kernel
theorem dX9_init_144 : decode cX9_init 144 = .ok (.aload_n 0, 1) := by decide +kernel
theorem dX9_init_145 : decode cX9_init 145 = .ok (.iconst 4, 1) := by decide +kernel
theorem dX9_init_146 : decode cX9_init 146 = .ok (.newarray .int, 2) := by decide +kernel
theorem dX9_init_148 : decode cX9_init 148 = .ok (.putfield 65, 3) := by decide +kernel
theorem dX9_init_151 : decode cX9_init 151 = .ok (.aload_n 0, 1) := by decide +kernel
theorem dX9_init_152 : decode cX9_init 152 = .ok (.iconst 4, 1) := by decide +kernel
theorem dX9_init_153 : decode cX9_init 153 = .ok (.newarray .int, 2) := by decide +kernel
theorem dX9_init_155 : decode cX9_init 155 = .ok (.putfield 68, 3) := by decide +kernel
theorem dX9_init_158 : decode cX9_init 158 = .ok (.aload_n 0, 1) := by decide +kernel
theorem dX9_init_159 : decode cX9_init 159 = .ok (.sipush 160, 3) := by decide +kernel
theorem dX9_init_162 : decode cX9_init 162 = .ok (.newarray .int, 2) := by decide +kernel
theorem dX9_init_164 : decode cX9_init 164 = .ok (.putfield 71, 3) := by decide +kernel
theorem dX9_init_167 : decode cX9_init 167 = .ok (.iconst 0, 1) := by decide +kernel
theorem dX9_init_168 : decode cX9_init 168 = .ok (.istore_n 1, 1) := by decide +kernel
theorem dX9_init_169 : decode cX9_init 169 = .ok (.iload_n 1, 1) := by decide +kernel
theorem dX9_init_170 : decode cX9_init 170 = .ok (.iconst 4, 1) := by decide +kernel
theorem dX9_init_171 : decode cX9_init 171 = .ok (.if_icmp .ge 17, 3) := by decide +kernel
theorem dX9_init_174 : decode cX9_init 174 = .ok (.aload_n 0, 1) := by decide +kernel
theorem dX9_init_175 : decode cX9_init 175 = .ok (.getfield 65, 3) := by decide +kernel
theorem dX9_init_178 : decode cX9_init 178 = .ok (.iload_n 1, 1) := by decide +kernel
theorem dX9_init_179 : decode cX9_init 179 = .ok (.bipush (-4), 2) := by decide +kernel
theorem dX9_init_181 : decode cX9_init 181 = .ok (.iastore, 1) := by decide +kernel
theorem dX9_init_182 : decode cX9_init 182 = .ok (.iinc 1 1, 3) := by decide +kernel
theorem dX9_init_185 : decode cX9_init 185 = .ok (.goto (-16), 3) := by decide +kernel
theorem dX9_init_188 : decode cX9_init 188 = .ok (.aload_n 0, 1) := by decide +kernel
theorem dX9_init_189 : decode cX9_init 189 = .ok (.invokevirtual 74, 3) := by decide +kernel
theorem dX9_init_192 : decode cX9_init 192 = .ok (.aload_n 0, 1) := by decide +kernel
theorem dX9_init_193 : decode cX9_init 193 = .ok (.invokevirtual 77, 3) := by decide +kernel
theorem dX9_init_196 : decode cX9_init 196 = .ok (.return_, 1) := by decide +kernel
section JQ
variable {own : String} {cc : ByteArray} {nL : Nat} {ret : Option FieldType} {nm : String} {fr lo n0 nf : Nat} {pc : Nat} {lv : List (Nat × Value)} {st : List Value} {n : Nat} {m : Mm} {r : Rr} {σ : Type} {o : Option σ} {k : σ → Option Res}
theorem J_req {r1 : Rr} (hr : r = r1) (h : J own cc nL ret nm fr lo n0 nf pc lv st n m r1 o k) : J own cc nL ret nm fr lo n0 nf pc lv st n m r o k := by subst hr; exact h
theorem J_meq {m1 : Mm} (hr : m = m1) (h : J own cc nL ret nm fr lo n0 nf pc lv st n m1 r o k) : J own cc nL ret nm fr lo n0 nf pc lv st n m r o k := by subst hr; exact h
end JQ
def LLc1 : List (Nat × Nat × Nat) := (0, 0, 1) :: (1, 5, 3) :: (1, 0, 2) :: []
def LLc2 : List (Nat × Nat × Nat) := (0, 1, 4) :: (4, 10, 17) :: (4, 9, 10) :: (10, 6, 16) :: (10, 5, 15) :: (10, 4, 14) :: (10, 3, 13) :: (10, 2, 12) :: (10, 1, 11) :: (4, 8, 9) :: (4, 7, 8) :: (4, 6, 7) :: (4, 5, 6) :: (4, 4, 5) :: LLc1
def LLc3 : List (Nat × Nat × Nat) := (0, 2, 18) :: (18, 10, 31) :: (18, 9, 24) :: (24, 6, 30) :: (24, 5, 29) :: (24, 4, 28) :: (24, 3, 27) :: (24, 2, 26) :: (24, 1, 25) :: (18, 8, 23) :: (18, 7, 22) :: (18, 6, 21) :: (18, 5, 20) :: (18, 4, 19) :: LLc2
def LLc4 : List (Nat × Nat × Nat) := (0, 3, 32) :: LLc3
def LLc5 : List (Nat × Nat × Nat) := (0, 4, 33) :: LLc4
def LLc6 : List (Nat × Nat × Nat) := (0, 5, 34) :: (34, 5, 38) :: (34, 4, 37) :: (34, 3, 36) :: (34, 2, 35) :: LLc5
def LLc7 : List (Nat × Nat × Nat) := (0, 6, 39) :: LLc6
def LLc8 : List (Nat × Nat × Nat) := (0, 7, 40) :: (40, 1, 41) :: LLc7
def LLc9 : List (Nat × Nat × Nat) := (0, 8, 42) :: LLc8
def LLc10 : List (Nat × Nat × Nat) := (0, 9, 43) :: (43, 19, 59) :: (43, 18, 58) :: (43, 17, 57) :: (43, 16, 56) :: (43, 15, 55) :: (43, 14, 54) :: (43, 13, 53) :: (43, 12, 52) :: (43, 11, 51) :: (43, 10, 50) :: (43, 9, 49) :: (43, 8, 48) :: (43, 7, 47) :: (43, 6, 46) :: (43, 5, 45) :: (43, 4, 44) :: LLc9
def LLc11 : List (Nat × Nat × Nat) := (0, 10, 60) :: (60, 19, 76) :: (60, 18, 75) :: (60, 17, 74) :: (60, 16, 73) :: (60, 15, 72) :: (60, 14, 71) :: (60, 13, 70) :: (60, 12, 69) :: (60, 11, 68) :: (60, 10, 67) :: (60, 9, 66) :: (60, 8, 65) :: (60, 7, 64) :: (60, 6, 63) :: (60, 5, 62) :: (60, 4, 61) :: LLc10
def LLc12 : List (Nat × Nat × Nat) := (32, 0, 77) :: (77, 10, 90) :: (77, 9, 83) :: (83, 6, 89) :: (83, 5, 88) :: (83, 4, 87) :: (83, 3, 86) :: (83, 2, 85) :: (83, 1, 84) :: (77, 8, 82) :: (77, 7, 81) :: (77, 6, 80) :: (77, 5, 79) :: (77, 4, 78) :: LLc11
def LLc13 : List (Nat × Nat × Nat) := (32, 1, 91) :: (91, 10, 104) :: (91, 9, 97) :: (97, 6, 103) :: (97, 5, 102) :: (97, 4, 101) :: (97, 3, 100) :: (97, 2, 99) :: (97, 1, 98) :: (91, 8, 96) :: (91, 7, 95) :: (91, 6, 94) :: (91, 5, 93) :: (91, 4, 92) :: LLc12
def LLc14 : List (Nat × Nat × Nat) := (42, 0, 105) :: (105, 2, 106) :: LLc13
def LLc15 : List (Nat × Nat × Nat) := (42, 1, 107) :: (107, 2, 108) :: LLc14
def LLc16 : List (Nat × Nat × Nat) := (42, 2, 109) :: (109, 2, 110) :: LLc15
def LLc17 : List (Nat × Nat × Nat) := (42, 3, 111) :: (111, 2, 112) :: LLc16
def LLc : List (Nat × Nat × Nat) := LLc17
theorem rfl_len (a : Nat) : (RFL.getD a []).length ≤ 50 := by
  by_cases ha : a < 135
  · exact (by decide +kernel : ∀ a, a < 135 → (RFL.getD a []).length ≤ 50) a ha
  · have : RFL.getD a [] = [] := by
      rw [List.getD_eq_getElem?_getD, List.getElem?_eq_none (by have : RFL.length = 135 := by decide +kernel
                                                                omega)]
      rfl
    rw [this]; simp
theorem RF_hi {P D : Nat} {T : Option Nat} {a k : Nat} (hk : 50 ≤ k) : RF P D T a k = none := by
  have h1 : ¬ k = 9 := by omega
  have h2 : ¬ k = 10 := by omega
  have h3 : ¬ k = 6 := by omega
  simp only [RF, h1, h2, h3, and_false, if_false]
  rw [List.getD_eq_getElem?_getD, List.getElem?_eq_none (by have := rfl_len a; omega)]
  rfl
theorem rL_hi {L : List (Nat × Nat × Nat)} (h : ∀ q ∈ L, q.2.1 < 50) {a k : Nat} (hk : 50 ≤ k) : rL L a k = none := by
  have : L.find? (fun q => q.1 == a && q.2.1 == k) = none := by
    rw [List.find?_eq_none]
    intro q hq
    have := h q hq
    simp
    intro _
    omega
  simp [rL, this]
def rowsOf (L : List (Nat × Nat × Nat)) (a : Nat) : List (Nat × Nat) := (L.filter (fun q => q.1 == a)).map (fun q => q.2)
theorem rL_row (L : List (Nat × Nat × Nat)) (a k : Nat) : rL L a k = ((rowsOf L a).find? (fun q => q.1 == k)).map (fun q => q.2) := by
  induction L with
  | nil => rfl
  | cons q L ih =>
    by_cases ha : q.1 = a
    · by_cases hk : q.2.1 = k
      · simp [rL, rowsOf, ha, hk]
      · have e1 : rL (q :: L) a k = rL L a k := by simp [rL, hk]
        have e2 : (rowsOf (q :: L) a).find? (fun q => q.1 == k) = (rowsOf L a).find? (fun q => q.1 == k) := by simp [rowsOf, ha, hk]
        rw [e1, e2, ih]
    · have e1 : rL (q :: L) a k = rL L a k := by simp [rL, ha]
      have e2 : rowsOf (q :: L) a = rowsOf L a := by simp [rowsOf, ha]
      rw [e1, e2, ih]
def rowOK (r1 : List (Nat × Nat)) (r2 : List (Option Nat)) : Bool := (List.range 50).all (fun k => decide ((r1.find? (fun q => q.1 == k)).map (fun q => q.2) = r2.getD k none))
theorem RF_ne {a k : Nat} (ha : a ≠ 0) : RF 43 60 none a k = (RFL.getD a []).getD k none := by
  by_cases h1 : a = 1 ∧ k = 6
  · obtain ⟨rfl, rfl⟩ := h1
    rfl
  · simp [RF, ha, h1]
theorem r_same {L : List (Nat × Nat × Nat)} {a : Nat} (ha : a ≠ 0) (hL : ∀ q ∈ L, q.2.1 < 50) (h : rowOK (rowsOf L a) (RFL.getD a []) = true) : rL L a = RF 43 60 none a := by
  funext k
  by_cases hk : k < 50
  · rw [rL_row, RF_ne ha]
    have := List.all_eq_true.mp h k (by simpa using hk)
    simpa using this
  · rw [RF_hi (by omega), rL_hi hL (by omega)]
theorem r_zero {L : List (Nat × Nat × Nat)} (hL : ∀ q ∈ L, q.2.1 < 50) (h : ∀ k, k < 50 → rL L 0 k = RF 43 60 none 0 k) : rL L 0 = RF 43 60 none 0 := by
  funext k
  by_cases hk : k < 50
  · exact h k hk
  · rw [RF_hi (by omega), rL_hi hL (by omega)]
theorem LLc_small : ∀ q ∈ LLc, q.2.1 < 50 := by decide +kernel
theorem r_c1 : ∀ a, a < 40 → a ≠ 0 → rowOK (rowsOf LLc a) (RFL.getD a []) = true := by decide +kernel
theorem r_c2 : ∀ a, a < 40 → rowOK (rowsOf LLc (a + 40)) (RFL.getD (a + 40) []) = true := by decide +kernel
theorem r_c3 : ∀ a, a < 33 → rowOK (rowsOf LLc (a + 80)) (RFL.getD (a + 80) []) = true := by decide +kernel
theorem r_c0 : ∀ k, k < 50 → rL LLc 0 k = RF 43 60 none 0 k := by decide +kernel
theorem r_all : ∀ a, a < 113 → rL LLc a = RF 43 60 none a := by
  intro a ha
  by_cases h0 : a = 0
  · subst h0
    exact r_zero LLc_small r_c0
  · refine r_same h0 LLc_small ?_
    by_cases h1 : a < 40
    · exact r_c1 a h1 h0
    · by_cases h2 : a < 80
      · have := r_c2 (a - 40) (by omega)
        rwa [show a - 40 + 40 = a by omega] at this
      · have := r_c3 (a - 80) (by omega)
        rwa [show a - 80 + 80 = a by omega] at this
def mC0 (m : Mm) : Mm := (up2 (up2 (up2 (up2 (up2 m 34 7 (-4)) 105 1 (-4)) 107 1 (-4)) 109 1 (-4)) 111 1 (-4))
def f_X8_init (F : Nat) (m : Mm) : Option Res := (f_X1_clear (mC0 m) 43).bind fun m6 => (f_X7_startFrom F m6 4 43).bind fun m7 => some (none, m7, RF 43 60 none)
set_option maxHeartbeats 4000000 in
set_option maxRecDepth 100000 in
theorem ct_X8_init (F : Nat) (m : Mm) (hm : ∀ b, 0 < b → m b = fun _ => 0) : Ct yX8_init cX8_init 2 none 4 90 [.ref 0] 1 113 m (rL []) (f_X8_init F m) := by
  refine Ct.of (by decide) (by decide) (Nat.le_of_ble_eq_true rfl) ?_
  unfold f_X8_init
  show J RX8 cX8_init 2 none "<init>" 4 90 1 113 0 [(0, .ref 0)] [] 1 m (rL []) ((f_X1_clear (up2 (up2 (up2 (up2 (up2 m 34 7 (-4)) 105 1 (-4)) 107 1 (-4)) 109 1 (-4)) 111 1 (-4)) 43).bind fun m6 => (f_X7_startFrom F m6 4 43).bind fun m7 => some (none, m7, RF 43 60 none)) some
  refine J_aload_n 0 0 0 dX8_init_0 rfl rfl ?_
  refine J_objInit dX8_init_1 lo_8_1 (by decide) (Nat.le_of_ble_eq_true rfl) ?_
  refine J_aload_n 0 0 0 dX8_init_4 rfl rfl ?_
  refine J_new 2 dX8_init_5 (by decide) cl_8_7 ins_2 ini_2 rfl (fun j => by rw [hm _ (by omega)]) (rL_none (by decide +kernel)) (by decide) ?_
  refine J_dup dX8_init_8 rfl ?_
  refine J_callINd 1 "WhichHold" dX8_init_9 mv_X2_init rfl rfl mvI_X2_init ln_8_9 (ct_X2_init m (fun b hb => by exact hm b (by omega)) []) ⟨by decide, by decide⟩ (Nat.le_of_ble_eq_true rfl) ⟨by decide, by decide⟩ ?_
  refine J_putRF 0 8 0 1 dX8_init_12 fl_8_10 rfl rfl (by decide) rfl rfl rfl (fun _ => rfl) (fun _ => rfl) ?_
  rw [rL_cons]
  refine J_req (r1 := rL LLc1) rfl ?_
  refine J_aload_n 0 0 0 dX8_init_15 rfl rfl ?_
  refine J_new 7 dX8_init_16 (by decide) cl_8_16 ins_7 ini_7 rfl (fun j => by rw [hm _ (by omega)]) (rL_none (by decide +kernel)) (by decide) ?_
  refine J_dup dX8_init_19 rfl ?_
  refine J_callINd 4 "WhichHold" dX8_init_20 mv_X7_init rfl rfl mvI_X7_init ln_8_18 (ct_X7_init 4 (by simp [isSt]) m (fun b hb => by exact hm b (by omega)) LLc1 (by decide +kernel)) ⟨by decide, by decide⟩ (Nat.le_of_ble_eq_true rfl) ⟨by decide, by decide⟩ ?_
  refine J_putRF 0 8 1 4 dX8_init_23 fl_8_19 rfl rfl (by decide) rfl rfl rfl (fun _ => rfl) (fun _ => rfl) ?_
  rw [rL_cons]
  refine J_req (r1 := rL LLc2) rfl ?_
  refine J_aload_n 0 0 0 dX8_init_26 rfl rfl ?_
  refine J_new 7 dX8_init_27 (by decide) cl_8_16 ins_7 ini_7 rfl (fun j => by rw [hm _ (by omega)]) (rL_none (by decide +kernel)) (by decide) ?_
  refine J_dup dX8_init_30 rfl ?_
  refine J_callINd 18 "WhichHold" dX8_init_31 mv_X7_init rfl rfl mvI_X7_init ln_8_18 (ct_X7_init 18 (by simp [isSt]) m (fun b hb => by exact hm b (by omega)) LLc2 (by decide +kernel)) ⟨by decide, by decide⟩ (Nat.le_of_ble_eq_true rfl) ⟨by decide, by decide⟩ ?_
  refine J_putRF 0 8 2 18 dX8_init_34 fl_8_23 rfl rfl (by decide) rfl rfl rfl (fun _ => rfl) (fun _ => rfl) ?_
  rw [rL_cons]
  refine J_req (r1 := rL LLc3) rfl ?_
  refine J_aload_n 0 0 0 dX8_init_37 rfl rfl ?_
  refine J_iconst 2 dX8_init_38 (by decide) ?_
  refine J_anew (CC := RX7) 2 23 3 dX8_init_39 (by decide) (by decide) (by decide) cl_8_16 ao_7 (by decide) (fun _ => rfl) rfl (rL_none (by decide +kernel)) (by decide) ?_
  refine J_putRF 0 8 3 32 dX8_init_42 fl_8_26 rfl rfl (by decide) rfl rfl rfl (fun _ => rfl) (fun _ => rfl) ?_
  rw [rL_cons]
  refine J_req (r1 := rL LLc4) rfl ?_
  refine J_aload_n 0 0 0 dX8_init_45 rfl rfl ?_
  refine J_iconst 2 dX8_init_46 (by decide) ?_
  refine J_newZ 2 dX8_init_47 (by decide) (by decide) (by decide) ac_Z rfl (hm _ (by omega)) (by decide) ?_
  refine J_putRF 0 8 4 33 dX8_init_49 fl_8_30 rfl rfl (by decide) rfl rfl rfl (fun _ => rfl) (fun _ => rfl) ?_
  rw [rL_cons]
  refine J_req (r1 := rL LLc5) rfl ?_
  refine J_aload_n 0 0 0 dX8_init_52 rfl rfl ?_
  refine J_new 4 dX8_init_53 (by decide) cl_8_34 ins_4 ini_4 rfl (fun j => by rw [hm _ (by omega)]) (rL_none (by decide +kernel)) (by decide) ?_
  refine J_dup dX8_init_56 rfl ?_
  refine J_callINd 34 "WhichHold" dX8_init_57 mv_X4_init rfl rfl mvI_X4_init ln_8_36 (ct_X4_init m (fun b hb => by exact hm b (by omega)) LLc5) ⟨by decide, by decide⟩ (Nat.le_of_ble_eq_true rfl) ⟨by decide, by decide⟩ ?_
  refine J_putRF 0 8 5 34 dX8_init_60 fl_8_37 rfl rfl (by decide) rfl rfl rfl (fun _ => rfl) (fun _ => rfl) ?_
  rw [rL_cons]
  refine J_req (r1 := rL LLc6) rfl ?_
  refine J_aload_n 0 0 0 dX8_init_63 rfl rfl ?_
  refine J_new 3 dX8_init_64 (by decide) cl_8_41 ins_3 ini_3 rfl (fun j => by rw [up2_ne (by omega)]; rw [hm _ (by omega)]) (rL_none (by decide +kernel)) (by decide) ?_
  refine J_dup dX8_init_67 rfl ?_
  refine J_callINd 39 "WhichHold" dX8_init_68 mv_X3_init rfl rfl mvI_X3_init ln_8_43 (ct_X3_init 39 (by simp [isSc]) (up2 m 34 7 (-4)) (fun b hb => by rw [up2_ne (by omega)]; exact hm b (by omega)) LLc6) ⟨by decide, by decide⟩ (Nat.le_of_ble_eq_true rfl) ⟨by decide, by decide⟩ ?_
  refine J_putRF 0 8 6 39 dX8_init_71 fl_8_44 rfl rfl (by decide) rfl rfl rfl (fun _ => rfl) (fun _ => rfl) ?_
  rw [rL_cons]
  refine J_req (r1 := rL LLc7) rfl ?_
  refine J_aload_n 0 0 0 dX8_init_74 rfl rfl ?_
  refine J_new 6 dX8_init_75 (by decide) cl_8_48 ins_6 ini_6 rfl (fun j => by rw [up2_ne (by omega)]; rw [hm _ (by omega)]) (rL_none (by decide +kernel)) (by decide) ?_
  refine J_dup dX8_init_78 rfl ?_
  refine J_callINd 40 "WhichHold" dX8_init_79 mv_X6_init rfl rfl mvI_X6_init ln_8_50 (ct_X6_init (up2 m 34 7 (-4)) (fun b hb => by rw [up2_ne (by omega)]; exact hm b (by omega)) LLc7) ⟨by decide, by decide⟩ (Nat.le_of_ble_eq_true rfl) ⟨by decide, by decide⟩ ?_
  refine J_putRF 0 8 7 40 dX8_init_82 fl_8_51 rfl rfl (by decide) rfl rfl rfl (fun _ => rfl) (fun _ => rfl) ?_
  rw [rL_cons]
  refine J_req (r1 := rL LLc8) rfl ?_
  refine J_aload_n 0 0 0 dX8_init_85 rfl rfl ?_
  refine J_iconst 4 dX8_init_86 (by decide) ?_
  refine J_anew (CC := RX5) 4 24 4 dX8_init_87 (by decide) (by decide) (by decide) cl_8_55 ao_5 (by decide) (fun _ => rfl) rfl (rL_none (by decide +kernel)) (by decide) ?_
  refine J_putRF 0 8 8 42 dX8_init_90 fl_8_57 rfl rfl (by decide) rfl rfl rfl (fun _ => rfl) (fun _ => rfl) ?_
  rw [rL_cons]
  refine J_req (r1 := rL LLc9) rfl ?_
  refine J_aload_n 0 0 0 dX8_init_93 rfl rfl ?_
  refine J_new 1 dX8_init_94 (by decide) cl_8_61 ins_1 ini_1 rfl (fun j => by rw [up2_ne (by omega)]; rw [hm _ (by omega)]) (rL_none (by decide +kernel)) (by decide) ?_
  refine J_dup dX8_init_97 rfl ?_
  refine J_callINd 43 "WhichHold" dX8_init_98 mv_X1_init rfl rfl mvI_X1_init ln_8_63 (ct_X1_init 43 (by simp [isPl]) (up2 m 34 7 (-4)) (fun b hb => by rw [up2_ne (by omega)]; exact hm b (by omega)) LLc9) ⟨by decide, by decide⟩ (Nat.le_of_ble_eq_true rfl) ⟨by decide, by decide⟩ ?_
  refine J_putR 0 8 9 43 dX8_init_101 fl_8_64 rfl rfl (by decide) rfl (fun _ => rfl) (fun _ => rfl) ?_
  rw [rL_cons]
  refine J_req (r1 := rL LLc10) rfl ?_
  refine J_aload_n 0 0 0 dX8_init_104 rfl rfl ?_
  refine J_new 1 dX8_init_105 (by decide) cl_8_61 ins_1 ini_1 rfl (fun j => by rw [up2_ne (by omega)]; rw [hm _ (by omega)]) (rL_none (by decide +kernel)) (by decide) ?_
  refine J_dup dX8_init_108 rfl ?_
  refine J_callINd 60 "WhichHold" dX8_init_109 mv_X1_init rfl rfl mvI_X1_init ln_8_63 (ct_X1_init 60 (by simp [isPl]) (up2 m 34 7 (-4)) (fun b hb => by rw [up2_ne (by omega)]; exact hm b (by omega)) LLc10) ⟨by decide, by decide⟩ (Nat.le_of_ble_eq_true rfl) ⟨by decide, by decide⟩ ?_
  refine J_putR 0 8 10 60 dX8_init_112 fl_8_68 rfl rfl (by decide) rfl (fun _ => rfl) (fun _ => rfl) ?_
  rw [rL_cons]
  refine J_req (r1 := rL LLc11) rfl ?_
  refine J_iconst 0 dX8_init_115 (by decide) ?_
  refine J_istore_n 1 [(1, .int 0), (0, .ref 0)] dX8_init_116 rfl (by decide) rfl ?_
  refine J_iload_n 1 0 0 dX8_init_117 rfl rfl ?_
  refine J_iconst 2 dX8_init_118 (by decide) ?_
  refine J_icmp_geF 141 dX8_init_119 (by decide) (by decide) ?_
  refine J_aload_n 0 1 0 dX8_init_122 rfl rfl ?_
  refine J_getR 0 8 3 32 dX8_init_123 fl_8_26 rfl rfl (by decide) (by decide +kernel) ?_
  refine J_iload_n 1 0 0 dX8_init_126 rfl rfl ?_
  refine J_new 7 dX8_init_127 (by decide) cl_8_16 ins_7 ini_7 rfl (fun j => by rw [up2_ne (by omega)]; rw [hm _ (by omega)]) (rL_none (by decide +kernel)) (by decide) ?_
  refine J_dup dX8_init_130 rfl ?_
  refine J_callINd 77 "WhichHold" dX8_init_131 mv_X7_init rfl rfl mvI_X7_init ln_8_18 (ct_X7_init 77 (by simp [isSt]) (up2 m 34 7 (-4)) (fun b hb => by rw [up2_ne (by omega)]; exact hm b (by omega)) LLc11 (by decide +kernel)) ⟨by decide, by decide⟩ (Nat.le_of_ble_eq_true rfl) ⟨by decide, by decide⟩ ?_
  refine J_aast 32 2 23 3 77 7 dX8_init_134 rfl (by decide) (by decide) (fun _ => rfl) rfl (by decide) (by decide) (by unfold vp_in; decide) ?_
  rw [rL_cons]
  refine J_req (r1 := rL LLc12) rfl ?_
  refine J_iinc 1 0 [(1, .int 1), (0, .ref 0)] 0 1 dX8_init_135 rfl (by decide) (by decide) rfl ?_
  refine J_goto 117 dX8_init_138 (by decide) ?_
  refine J_iload_n 1 0 1 dX8_init_117 rfl rfl ?_
  refine J_iconst 2 dX8_init_118 (by decide) ?_
  refine J_icmp_geF 141 dX8_init_119 (by decide) (by decide) ?_
  refine J_aload_n 0 1 0 dX8_init_122 rfl rfl ?_
  refine J_getR 0 8 3 32 dX8_init_123 fl_8_26 rfl rfl (by decide) (by decide +kernel) ?_
  refine J_iload_n 1 0 1 dX8_init_126 rfl rfl ?_
  refine J_new 7 dX8_init_127 (by decide) cl_8_16 ins_7 ini_7 rfl (fun j => by rw [up2_ne (by omega)]; rw [hm _ (by omega)]) (rL_none (by decide +kernel)) (by decide) ?_
  refine J_dup dX8_init_130 rfl ?_
  refine J_callINd 91 "WhichHold" dX8_init_131 mv_X7_init rfl rfl mvI_X7_init ln_8_18 (ct_X7_init 91 (by simp [isSt]) (up2 m 34 7 (-4)) (fun b hb => by rw [up2_ne (by omega)]; exact hm b (by omega)) LLc12 (by decide +kernel)) ⟨by decide, by decide⟩ (Nat.le_of_ble_eq_true rfl) ⟨by decide, by decide⟩ ?_
  refine J_aast 32 2 23 3 91 7 dX8_init_134 rfl (by decide) (by decide) (fun _ => rfl) rfl (by decide) (by decide) (by unfold vp_in; decide) ?_
  rw [rL_cons]
  refine J_req (r1 := rL LLc13) rfl ?_
  refine J_iinc 1 0 [(1, .int 2), (0, .ref 0)] 1 2 dX8_init_135 rfl (by decide) (by decide) rfl ?_
  refine J_goto 117 dX8_init_138 (by decide) ?_
  refine J_iload_n 1 0 2 dX8_init_117 rfl rfl ?_
  refine J_iconst 2 dX8_init_118 (by decide) ?_
  refine J_icmp_geT 141 dX8_init_119 (by decide) (by decide) ?_
  refine J_iconst 0 dX8_init_141 (by decide) ?_
  refine J_istore_n 1 [(1, .int 0), (0, .ref 0)] dX8_init_142 rfl (by decide) rfl ?_
  refine J_iload_n 1 0 0 dX8_init_143 rfl rfl ?_
  refine J_iconst 4 dX8_init_144 (by decide) ?_
  refine J_icmp_geF 167 dX8_init_145 (by decide) (by decide) ?_
  refine J_aload_n 0 1 0 dX8_init_148 rfl rfl ?_
  refine J_getR 0 8 8 42 dX8_init_149 fl_8_57 rfl rfl (by decide) (by decide +kernel) ?_
  refine J_iload_n 1 0 0 dX8_init_152 rfl rfl ?_
  refine J_new 5 dX8_init_153 (by decide) cl_8_55 ins_5 ini_5 rfl (fun j => by rw [up2_ne (by omega)]; rw [hm _ (by omega)]) (rL_none (by decide +kernel)) (by decide) ?_
  refine J_dup dX8_init_156 rfl ?_
  refine J_callINd 105 "WhichHold" dX8_init_157 mv_X5_init rfl rfl mvI_X5_init ln_8_71 (ct_X5_init 105 (by simp [isSh]) (up2 m 34 7 (-4)) (fun b hb => by rw [up2_ne (by omega)]; exact hm b (by omega)) LLc13) ⟨by decide, by decide⟩ (Nat.le_of_ble_eq_true rfl) ⟨by decide, by decide⟩ ?_
  refine J_aast 42 4 24 4 105 5 dX8_init_160 rfl (by decide) (by decide) (fun _ => rfl) rfl (by decide) (by decide) (by unfold vp_in; decide) ?_
  rw [rL_cons]
  refine J_req (r1 := rL LLc14) rfl ?_
  refine J_iinc 1 0 [(1, .int 1), (0, .ref 0)] 0 1 dX8_init_161 rfl (by decide) (by decide) rfl ?_
  refine J_goto 143 dX8_init_164 (by decide) ?_
  refine J_iload_n 1 0 1 dX8_init_143 rfl rfl ?_
  refine J_iconst 4 dX8_init_144 (by decide) ?_
  refine J_icmp_geF 167 dX8_init_145 (by decide) (by decide) ?_
  refine J_aload_n 0 1 0 dX8_init_148 rfl rfl ?_
  refine J_getR 0 8 8 42 dX8_init_149 fl_8_57 rfl rfl (by decide) (by decide +kernel) ?_
  refine J_iload_n 1 0 1 dX8_init_152 rfl rfl ?_
  refine J_new 5 dX8_init_153 (by decide) cl_8_55 ins_5 ini_5 rfl (fun j => by rw [up2_ne (by omega)]; rw [up2_ne (by omega)]; rw [hm _ (by omega)]) (rL_none (by decide +kernel)) (by decide) ?_
  refine J_dup dX8_init_156 rfl ?_
  refine J_callINd 107 "WhichHold" dX8_init_157 mv_X5_init rfl rfl mvI_X5_init ln_8_71 (ct_X5_init 107 (by simp [isSh]) (up2 (up2 m 34 7 (-4)) 105 1 (-4)) (fun b hb => by rw [up2_ne (by omega)]; rw [up2_ne (by omega)]; exact hm b (by omega)) LLc14) ⟨by decide, by decide⟩ (Nat.le_of_ble_eq_true rfl) ⟨by decide, by decide⟩ ?_
  refine J_aast 42 4 24 4 107 5 dX8_init_160 rfl (by decide) (by decide) (fun _ => rfl) rfl (by decide) (by decide) (by unfold vp_in; decide) ?_
  rw [rL_cons]
  refine J_req (r1 := rL LLc15) rfl ?_
  refine J_iinc 1 0 [(1, .int 2), (0, .ref 0)] 1 2 dX8_init_161 rfl (by decide) (by decide) rfl ?_
  refine J_goto 143 dX8_init_164 (by decide) ?_
  refine J_iload_n 1 0 2 dX8_init_143 rfl rfl ?_
  refine J_iconst 4 dX8_init_144 (by decide) ?_
  refine J_icmp_geF 167 dX8_init_145 (by decide) (by decide) ?_
  refine J_aload_n 0 1 0 dX8_init_148 rfl rfl ?_
  refine J_getR 0 8 8 42 dX8_init_149 fl_8_57 rfl rfl (by decide) (by decide +kernel) ?_
  refine J_iload_n 1 0 2 dX8_init_152 rfl rfl ?_
  refine J_new 5 dX8_init_153 (by decide) cl_8_55 ins_5 ini_5 rfl (fun j => by rw [up2_ne (by omega)]; rw [up2_ne (by omega)]; rw [up2_ne (by omega)]; rw [hm _ (by omega)]) (rL_none (by decide +kernel)) (by decide) ?_
  refine J_dup dX8_init_156 rfl ?_
  refine J_callINd 109 "WhichHold" dX8_init_157 mv_X5_init rfl rfl mvI_X5_init ln_8_71 (ct_X5_init 109 (by simp [isSh]) (up2 (up2 (up2 m 34 7 (-4)) 105 1 (-4)) 107 1 (-4)) (fun b hb => by rw [up2_ne (by omega)]; rw [up2_ne (by omega)]; rw [up2_ne (by omega)]; exact hm b (by omega)) LLc15) ⟨by decide, by decide⟩ (Nat.le_of_ble_eq_true rfl) ⟨by decide, by decide⟩ ?_
  refine J_aast 42 4 24 4 109 5 dX8_init_160 rfl (by decide) (by decide) (fun _ => rfl) rfl (by decide) (by decide) (by unfold vp_in; decide) ?_
  rw [rL_cons]
  refine J_req (r1 := rL LLc16) rfl ?_
  refine J_iinc 1 0 [(1, .int 3), (0, .ref 0)] 2 3 dX8_init_161 rfl (by decide) (by decide) rfl ?_
  refine J_goto 143 dX8_init_164 (by decide) ?_
  refine J_iload_n 1 0 3 dX8_init_143 rfl rfl ?_
  refine J_iconst 4 dX8_init_144 (by decide) ?_
  refine J_icmp_geF 167 dX8_init_145 (by decide) (by decide) ?_
  refine J_aload_n 0 1 0 dX8_init_148 rfl rfl ?_
  refine J_getR 0 8 8 42 dX8_init_149 fl_8_57 rfl rfl (by decide) (by decide +kernel) ?_
  refine J_iload_n 1 0 3 dX8_init_152 rfl rfl ?_
  refine J_new 5 dX8_init_153 (by decide) cl_8_55 ins_5 ini_5 rfl (fun j => by rw [up2_ne (by omega)]; rw [up2_ne (by omega)]; rw [up2_ne (by omega)]; rw [up2_ne (by omega)]; rw [hm _ (by omega)]) (rL_none (by decide +kernel)) (by decide) ?_
  refine J_dup dX8_init_156 rfl ?_
  refine J_callINd 111 "WhichHold" dX8_init_157 mv_X5_init rfl rfl mvI_X5_init ln_8_71 (ct_X5_init 111 (by simp [isSh]) (up2 (up2 (up2 (up2 m 34 7 (-4)) 105 1 (-4)) 107 1 (-4)) 109 1 (-4)) (fun b hb => by rw [up2_ne (by omega)]; rw [up2_ne (by omega)]; rw [up2_ne (by omega)]; rw [up2_ne (by omega)]; exact hm b (by omega)) LLc16) ⟨by decide, by decide⟩ (Nat.le_of_ble_eq_true rfl) ⟨by decide, by decide⟩ ?_
  refine J_aast 42 4 24 4 111 5 dX8_init_160 rfl (by decide) (by decide) (fun _ => rfl) rfl (by decide) (by decide) (by unfold vp_in; decide) ?_
  rw [rL_cons]
  refine J_req (r1 := rL LLc17) rfl ?_
  refine J_iinc 1 0 [(1, .int 4), (0, .ref 0)] 3 4 dX8_init_161 rfl (by decide) (by decide) rfl ?_
  refine J_goto 143 dX8_init_164 (by decide) ?_
  refine J_iload_n 1 0 4 dX8_init_143 rfl rfl ?_
  refine J_iconst 4 dX8_init_144 (by decide) ?_
  refine J_icmp_geT 167 dX8_init_145 (by decide) (by decide) ?_
  refine J_rcong (r1 := RF 43 60 none) r_all ?_
  refine J_aload_n 0 1 0 dX8_init_167 rfl rfl ?_
  refine J_getR 0 8 9 43 dX8_init_168 fl_8_64 rfl rfl (by decide) rfl ?_
  refine J_callVV 43 1 0 [] dX8_init_171 mv_X1_clear mv_X1_clearv lk_8_72 (ct_X1_clear F (Nat.le_refl _) 43 60 none _ 43 (by simp [isPl])) rfl rfl (by decide) rfl (by decide) ⟨by decide, by decide⟩ (Nat.le_of_ble_eq_true rfl) (fun m6 => ?_)
  refine J_aload_n 0 1 0 dX8_init_174 rfl rfl ?_
  refine J_getR 0 8 1 4 dX8_init_175 fl_8_19 rfl rfl (by decide) rfl ?_
  refine J_aload_n 0 1 0 dX8_init_178 rfl rfl ?_
  refine J_getR 0 8 9 43 dX8_init_179 fl_8_64 rfl rfl (by decide) rfl ?_
  refine J_callVV 4 7 1 [.ref 43] dX8_init_182 mv_X7_startFrom mv_X7_startFromv lk_8_75 (ct_X7_startFrom F (Nat.le_refl _) 43 60 none m6 4 (by simp [isSt]) 43 (by simp [isPl])) rfl rfl (by decide) rfl (by decide) ⟨by decide, by decide⟩ (Nat.le_of_ble_eq_true rfl) (fun m7 => ?_)
  exact J_vret dX8_init_185 rfl rfl
def LLd1 : List (Nat × Nat × Nat) := (113, 0, 114) :: LLc
def LLd2 : List (Nat × Nat × Nat) := (113, 1, 115) :: LLd1
def LLd3 : List (Nat × Nat × Nat) := (113, 3, 116) :: LLd2
def LLd4 : List (Nat × Nat × Nat) := (113, 5, 117) :: LLd3
def LLd5 : List (Nat × Nat × Nat) := (113, 7, 118) :: LLd4
def LLd6 : List (Nat × Nat × Nat) := (113, 9, 119) :: LLd5
def LLd7 : List (Nat × Nat × Nat) := (113, 10, 120) :: LLd6
def LLd8 : List (Nat × Nat × Nat) := (113, 12, 121) :: LLd7
def LLd9 : List (Nat × Nat × Nat) := (113, 14, 122) :: LLd8
def LLd10 : List (Nat × Nat × Nat) := (113, 16, 123) :: LLd9
def LLd11 : List (Nat × Nat × Nat) := (113, 18, 124) :: LLd10
def LLd12 : List (Nat × Nat × Nat) := (113, 19, 125) :: LLd11
def LLd13 : List (Nat × Nat × Nat) := (113, 20, 126) :: LLd12
def LLd14 : List (Nat × Nat × Nat) := (113, 21, 127) :: LLd13
def LLd15 : List (Nat × Nat × Nat) := (113, 31, 128) :: LLd14
def LLd16 : List (Nat × Nat × Nat) := (113, 32, 129) :: LLd15
def LLd17 : List (Nat × Nat × Nat) := (113, 33, 130) :: LLd16
def LLd18 : List (Nat × Nat × Nat) := (113, 37, 131) :: LLd17
def LLd19 : List (Nat × Nat × Nat) := (113, 38, 132) :: LLd18
def LLd20 : List (Nat × Nat × Nat) := (113, 39, 133) :: LLd19
def LLd21 : List (Nat × Nat × Nat) := (113, 40, 134) :: LLd20
theorem LLd_small : ∀ q ∈ LLd21, q.2.1 < 50 := by decide +kernel
theorem r_d1 : ∀ a, a < 40 → a ≠ 0 → rowOK (rowsOf LLd21 a) (RFL.getD a []) = true := by decide +kernel
theorem r_d2 : ∀ a, a < 40 → rowOK (rowsOf LLd21 (a + 40)) (RFL.getD (a + 40) []) = true := by decide +kernel
theorem r_d3 : ∀ a, a < 55 → rowOK (rowsOf LLd21 (a + 80)) (RFL.getD (a + 80) []) = true := by decide +kernel
theorem r_d0 : ∀ k, k < 50 → rL LLd21 0 k = RF 43 60 none 0 k := by decide +kernel
theorem r_all2 : ∀ a, a < 135 → rL LLd21 a = RF 43 60 none a := by
  intro a ha
  by_cases h0 : a = 0
  · subst h0
    exact r_zero LLd_small r_d0
  · refine r_same h0 LLd_small ?_
    by_cases h1 : a < 40
    · exact r_d1 a h1 h0
    · by_cases h2 : a < 80
      · have := r_d2 (a - 40) (by omega)
        rwa [show a - 40 + 40 = a by omega] at this
      · have := r_d3 (a - 80) (by omega)
        rwa [show a - 80 + 80 = a by omega] at this
def mM0 (m : Mm) : Mm := (up2 (up2 (up2 (up2 m 132 0 (-4)) 132 1 (-4)) 132 2 (-4)) 132 3 (-4))
def f_X9_init (F : Nat) (m : Mm) : Option Res := (f_X9_firstDraft F (mM0 m)).bind fun m6 => (f_X9_keepDraft F m6).bind fun m7 => some (none, m7, RF 43 60 none)
set_option maxHeartbeats 4000000 in
set_option maxRecDepth 100000 in
theorem ct_X9_init (F : Nat) (m : Mm) (hm : ∀ b, 113 < b → m b = fun _ => 0) : Ct yX9_init cX9_init 2 none 5 106 [.ref 113] 114 135 m (rL LLc) (f_X9_init F m) := by
  refine Ct.of (by decide) (by decide) (Nat.le_of_ble_eq_true rfl) ?_
  unfold f_X9_init
  show J RX9 cX9_init 2 none "<init>" 5 106 114 135 0 [(0, .ref 113)] [] 114 m (rL LLc) ((f_X9_firstDraft F (up2 (up2 (up2 (up2 m 132 0 (-4)) 132 1 (-4)) 132 2 (-4)) 132 3 (-4))).bind fun m6 => (f_X9_keepDraft F m6).bind fun m7 => some (none, m7, RF 43 60 none)) some
  refine J_aload_n 0 0 113 dX9_init_0 rfl rfl ?_
  refine J_objInit dX9_init_1 lo_9_1 (by decide) (Nat.le_of_ble_eq_true rfl) ?_
  refine J_aload_n 0 0 113 dX9_init_4 rfl rfl ?_
  refine J_sipush 512 dX9_init_5 (by decide) ?_
  refine J_newI 512 dX9_init_8 (by decide) (by decide) (by decide) ac_I rfl (hm _ (by omega)) (by decide) ?_
  refine J_putRF 113 9 0 114 dX9_init_10 fl_9_7 rfl rfl (by decide) rfl rfl rfl (fun _ => rfl) (fun _ => rfl) ?_
  rw [rL_cons]
  refine J_req (r1 := rL LLd1) rfl ?_
  refine J_aload_n 0 0 113 dX9_init_13 rfl rfl ?_
  refine J_iconst 2 dX9_init_14 (by decide) ?_
  refine J_newZ 2 dX9_init_15 (by decide) (by decide) (by decide) ac_Z rfl (hm _ (by omega)) (by decide) ?_
  refine J_putRF 113 9 1 115 dX9_init_17 fl_9_13 rfl rfl (by decide) rfl rfl rfl (fun _ => rfl) (fun _ => rfl) ?_
  rw [rL_cons]
  refine J_req (r1 := rL LLd2) rfl ?_
  refine J_aload_n 0 0 113 dX9_init_20 rfl rfl ?_
  refine J_bipush 32 dX9_init_21 (by decide) ?_
  refine J_newI 32 dX9_init_23 (by decide) (by decide) (by decide) ac_I rfl (hm _ (by omega)) (by decide) ?_
  refine J_putRF 113 9 3 116 dX9_init_25 fl_9_17 rfl rfl (by decide) rfl rfl rfl (fun _ => rfl) (fun _ => rfl) ?_
  rw [rL_cons]
  refine J_req (r1 := rL LLd3) rfl ?_
  refine J_aload_n 0 0 113 dX9_init_28 rfl rfl ?_
  refine J_bipush 60 dX9_init_29 (by decide) ?_
  refine J_newI 60 dX9_init_31 (by decide) (by decide) (by decide) ac_I rfl (hm _ (by omega)) (by decide) ?_
  refine J_putRF 113 9 5 117 dX9_init_33 fl_9_20 rfl rfl (by decide) rfl rfl rfl (fun _ => rfl) (fun _ => rfl) ?_
  rw [rL_cons]
  refine J_req (r1 := rL LLd4) rfl ?_
  refine J_aload_n 0 0 113 dX9_init_36 rfl rfl ?_
  refine J_bipush 12 dX9_init_37 (by decide) ?_
  refine J_newI 12 dX9_init_39 (by decide) (by decide) (by decide) ac_I rfl (hm _ (by omega)) (by decide) ?_
  refine J_putRF 113 9 7 118 dX9_init_41 fl_9_23 rfl rfl (by decide) rfl rfl rfl (fun _ => rfl) (fun _ => rfl) ?_
  rw [rL_cons]
  refine J_req (r1 := rL LLd5) rfl ?_
  refine J_aload_n 0 0 113 dX9_init_44 rfl rfl ?_
  refine J_bipush 6 dX9_init_45 (by decide) ?_
  refine J_newI 6 dX9_init_47 (by decide) (by decide) (by decide) ac_I rfl (hm _ (by omega)) (by decide) ?_
  refine J_putRF 113 9 9 119 dX9_init_49 fl_9_26 rfl rfl (by decide) rfl rfl rfl (fun _ => rfl) (fun _ => rfl) ?_
  rw [rL_cons]
  refine J_req (r1 := rL LLd6) rfl ?_
  refine J_aload_n 0 0 113 dX9_init_52 rfl rfl ?_
  refine J_iconst 5 dX9_init_53 (by decide) ?_
  refine J_newI 5 dX9_init_54 (by decide) (by decide) (by decide) ac_I rfl (hm _ (by omega)) (by decide) ?_
  refine J_putRF 113 9 10 120 dX9_init_56 fl_9_29 rfl rfl (by decide) rfl rfl rfl (fun _ => rfl) (fun _ => rfl) ?_
  rw [rL_cons]
  refine J_req (r1 := rL LLd7) rfl ?_
  refine J_aload_n 0 0 113 dX9_init_59 rfl rfl ?_
  refine J_bipush 32 dX9_init_60 (by decide) ?_
  refine J_newI 32 dX9_init_62 (by decide) (by decide) (by decide) ac_I rfl (hm _ (by omega)) (by decide) ?_
  refine J_putRF 113 9 12 121 dX9_init_64 fl_9_32 rfl rfl (by decide) rfl rfl rfl (fun _ => rfl) (fun _ => rfl) ?_
  rw [rL_cons]
  refine J_req (r1 := rL LLd8) rfl ?_
  refine J_aload_n 0 0 113 dX9_init_67 rfl rfl ?_
  refine J_bipush 60 dX9_init_68 (by decide) ?_
  refine J_newI 60 dX9_init_70 (by decide) (by decide) (by decide) ac_I rfl (hm _ (by omega)) (by decide) ?_
  refine J_putRF 113 9 14 122 dX9_init_72 fl_9_35 rfl rfl (by decide) rfl rfl rfl (fun _ => rfl) (fun _ => rfl) ?_
  rw [rL_cons]
  refine J_req (r1 := rL LLd9) rfl ?_
  refine J_aload_n 0 0 113 dX9_init_75 rfl rfl ?_
  refine J_bipush 12 dX9_init_76 (by decide) ?_
  refine J_newI 12 dX9_init_78 (by decide) (by decide) (by decide) ac_I rfl (hm _ (by omega)) (by decide) ?_
  refine J_putRF 113 9 16 123 dX9_init_80 fl_9_38 rfl rfl (by decide) rfl rfl rfl (fun _ => rfl) (fun _ => rfl) ?_
  rw [rL_cons]
  refine J_req (r1 := rL LLd10) rfl ?_
  refine J_aload_n 0 0 113 dX9_init_83 rfl rfl ?_
  refine J_bipush 6 dX9_init_84 (by decide) ?_
  refine J_newI 6 dX9_init_86 (by decide) (by decide) (by decide) ac_I rfl (hm _ (by omega)) (by decide) ?_
  refine J_putRF 113 9 18 124 dX9_init_88 fl_9_41 rfl rfl (by decide) rfl rfl rfl (fun _ => rfl) (fun _ => rfl) ?_
  rw [rL_cons]
  refine J_req (r1 := rL LLd11) rfl ?_
  refine J_aload_n 0 0 113 dX9_init_91 rfl rfl ?_
  refine J_iconst 5 dX9_init_92 (by decide) ?_
  refine J_newI 5 dX9_init_93 (by decide) (by decide) (by decide) ac_I rfl (hm _ (by omega)) (by decide) ?_
  refine J_putRF 113 9 19 125 dX9_init_95 fl_9_44 rfl rfl (by decide) rfl rfl rfl (fun _ => rfl) (fun _ => rfl) ?_
  rw [rL_cons]
  refine J_req (r1 := rL LLd12) rfl ?_
  refine J_aload_n 0 0 113 dX9_init_98 rfl rfl ?_
  refine J_iconst 5 dX9_init_99 (by decide) ?_
  refine J_newZ 5 dX9_init_100 (by decide) (by decide) (by decide) ac_Z rfl (hm _ (by omega)) (by decide) ?_
  refine J_putRF 113 9 20 126 dX9_init_102 fl_9_47 rfl rfl (by decide) rfl rfl rfl (fun _ => rfl) (fun _ => rfl) ?_
  rw [rL_cons]
  refine J_req (r1 := rL LLd13) rfl ?_
  refine J_aload_n 0 0 113 dX9_init_105 rfl rfl ?_
  refine J_sipush 400 dX9_init_106 (by decide) ?_
  refine J_newI 400 dX9_init_109 (by decide) (by decide) (by decide) ac_I rfl (hm _ (by omega)) (by decide) ?_
  refine J_putRF 113 9 21 127 dX9_init_111 fl_9_50 rfl rfl (by decide) rfl rfl rfl (fun _ => rfl) (fun _ => rfl) ?_
  rw [rL_cons]
  refine J_req (r1 := rL LLd14) rfl ?_
  refine J_aload_n 0 0 113 dX9_init_114 rfl rfl ?_
  refine J_bipush 14 dX9_init_115 (by decide) ?_
  refine J_newI 14 dX9_init_117 (by decide) (by decide) (by decide) ac_I rfl (hm _ (by omega)) (by decide) ?_
  refine J_putRF 113 9 31 128 dX9_init_119 fl_9_53 rfl rfl (by decide) rfl rfl rfl (fun _ => rfl) (fun _ => rfl) ?_
  rw [rL_cons]
  refine J_req (r1 := rL LLd15) rfl ?_
  refine J_aload_n 0 0 113 dX9_init_122 rfl rfl ?_
  refine J_iconst 3 dX9_init_123 (by decide) ?_
  refine J_newI 3 dX9_init_124 (by decide) (by decide) (by decide) ac_I rfl (hm _ (by omega)) (by decide) ?_
  refine J_putRF 113 9 32 129 dX9_init_126 fl_9_56 rfl rfl (by decide) rfl rfl rfl (fun _ => rfl) (fun _ => rfl) ?_
  rw [rL_cons]
  refine J_req (r1 := rL LLd16) rfl ?_
  refine J_aload_n 0 0 113 dX9_init_129 rfl rfl ?_
  refine J_iconst 3 dX9_init_130 (by decide) ?_
  refine J_newI 3 dX9_init_131 (by decide) (by decide) (by decide) ac_I rfl (hm _ (by omega)) (by decide) ?_
  refine J_putRF 113 9 33 130 dX9_init_133 fl_9_59 rfl rfl (by decide) rfl rfl rfl (fun _ => rfl) (fun _ => rfl) ?_
  rw [rL_cons]
  refine J_req (r1 := rL LLd17) rfl ?_
  refine J_aload_n 0 0 113 dX9_init_136 rfl rfl ?_
  refine J_bipush 8 dX9_init_137 (by decide) ?_
  refine J_newI 8 dX9_init_139 (by decide) (by decide) (by decide) ac_I rfl (hm _ (by omega)) (by decide) ?_
  refine J_putRF 113 9 37 131 dX9_init_141 fl_9_62 rfl rfl (by decide) rfl rfl rfl (fun _ => rfl) (fun _ => rfl) ?_
  rw [rL_cons]
  refine J_req (r1 := rL LLd18) rfl ?_
  refine J_aload_n 0 0 113 dX9_init_144 rfl rfl ?_
  refine J_iconst 4 dX9_init_145 (by decide) ?_
  refine J_newI 4 dX9_init_146 (by decide) (by decide) (by decide) ac_I rfl (hm _ (by omega)) (by decide) ?_
  refine J_putRF 113 9 38 132 dX9_init_148 fl_9_65 rfl rfl (by decide) rfl rfl rfl (fun _ => rfl) (fun _ => rfl) ?_
  rw [rL_cons]
  refine J_req (r1 := rL LLd19) rfl ?_
  refine J_aload_n 0 0 113 dX9_init_151 rfl rfl ?_
  refine J_iconst 4 dX9_init_152 (by decide) ?_
  refine J_newI 4 dX9_init_153 (by decide) (by decide) (by decide) ac_I rfl (hm _ (by omega)) (by decide) ?_
  refine J_putRF 113 9 39 133 dX9_init_155 fl_9_68 rfl rfl (by decide) rfl rfl rfl (fun _ => rfl) (fun _ => rfl) ?_
  rw [rL_cons]
  refine J_req (r1 := rL LLd20) rfl ?_
  refine J_aload_n 0 0 113 dX9_init_158 rfl rfl ?_
  refine J_sipush 160 dX9_init_159 (by decide) ?_
  refine J_newI 160 dX9_init_162 (by decide) (by decide) (by decide) ac_I rfl (hm _ (by omega)) (by decide) ?_
  refine J_putRF 113 9 40 134 dX9_init_164 fl_9_71 rfl rfl (by decide) rfl rfl rfl (fun _ => rfl) (fun _ => rfl) ?_
  rw [rL_cons]
  refine J_req (r1 := rL LLd21) rfl ?_
  refine J_iconst 0 dX9_init_167 (by decide) ?_
  refine J_istore_n 1 [(1, .int 0), (0, .ref 113)] dX9_init_168 rfl (by decide) rfl ?_
  refine J_iload_n 1 0 0 dX9_init_169 rfl rfl ?_
  refine J_iconst 4 dX9_init_170 (by decide) ?_
  refine J_icmp_geF 188 dX9_init_171 (by decide) (by decide) ?_
  refine J_aload_n 0 1 113 dX9_init_174 rfl rfl ?_
  refine J_getR 113 9 38 132 dX9_init_175 fl_9_65 rfl rfl (by decide) (by decide +kernel) ?_
  refine J_iload_n 1 0 0 dX9_init_178 rfl rfl ?_
  refine J_bipush (-4) dX9_init_179 (by decide) ?_
  refine J_iastd 132 4 dX9_init_181 rfl (by decide) (by decide) ?_
  refine J_meq (m1 := (up2 m 132 0 (-4))) rfl ?_
  refine J_iinc 1 0 [(1, .int 1), (0, .ref 113)] 0 1 dX9_init_182 rfl (by decide) (by decide) rfl ?_
  refine J_goto 169 dX9_init_185 (by decide) ?_
  refine J_iload_n 1 0 1 dX9_init_169 rfl rfl ?_
  refine J_iconst 4 dX9_init_170 (by decide) ?_
  refine J_icmp_geF 188 dX9_init_171 (by decide) (by decide) ?_
  refine J_aload_n 0 1 113 dX9_init_174 rfl rfl ?_
  refine J_getR 113 9 38 132 dX9_init_175 fl_9_65 rfl rfl (by decide) (by decide +kernel) ?_
  refine J_iload_n 1 0 1 dX9_init_178 rfl rfl ?_
  refine J_bipush (-4) dX9_init_179 (by decide) ?_
  refine J_iastd 132 4 dX9_init_181 rfl (by decide) (by decide) ?_
  refine J_meq (m1 := (up2 (up2 m 132 0 (-4)) 132 1 (-4))) rfl ?_
  refine J_iinc 1 0 [(1, .int 2), (0, .ref 113)] 1 2 dX9_init_182 rfl (by decide) (by decide) rfl ?_
  refine J_goto 169 dX9_init_185 (by decide) ?_
  refine J_iload_n 1 0 2 dX9_init_169 rfl rfl ?_
  refine J_iconst 4 dX9_init_170 (by decide) ?_
  refine J_icmp_geF 188 dX9_init_171 (by decide) (by decide) ?_
  refine J_aload_n 0 1 113 dX9_init_174 rfl rfl ?_
  refine J_getR 113 9 38 132 dX9_init_175 fl_9_65 rfl rfl (by decide) (by decide +kernel) ?_
  refine J_iload_n 1 0 2 dX9_init_178 rfl rfl ?_
  refine J_bipush (-4) dX9_init_179 (by decide) ?_
  refine J_iastd 132 4 dX9_init_181 rfl (by decide) (by decide) ?_
  refine J_meq (m1 := (up2 (up2 (up2 m 132 0 (-4)) 132 1 (-4)) 132 2 (-4))) rfl ?_
  refine J_iinc 1 0 [(1, .int 3), (0, .ref 113)] 2 3 dX9_init_182 rfl (by decide) (by decide) rfl ?_
  refine J_goto 169 dX9_init_185 (by decide) ?_
  refine J_iload_n 1 0 3 dX9_init_169 rfl rfl ?_
  refine J_iconst 4 dX9_init_170 (by decide) ?_
  refine J_icmp_geF 188 dX9_init_171 (by decide) (by decide) ?_
  refine J_aload_n 0 1 113 dX9_init_174 rfl rfl ?_
  refine J_getR 113 9 38 132 dX9_init_175 fl_9_65 rfl rfl (by decide) (by decide +kernel) ?_
  refine J_iload_n 1 0 3 dX9_init_178 rfl rfl ?_
  refine J_bipush (-4) dX9_init_179 (by decide) ?_
  refine J_iastd 132 4 dX9_init_181 rfl (by decide) (by decide) ?_
  refine J_meq (m1 := (up2 (up2 (up2 (up2 m 132 0 (-4)) 132 1 (-4)) 132 2 (-4)) 132 3 (-4))) rfl ?_
  refine J_iinc 1 0 [(1, .int 4), (0, .ref 113)] 3 4 dX9_init_182 rfl (by decide) (by decide) rfl ?_
  refine J_goto 169 dX9_init_185 (by decide) ?_
  refine J_iload_n 1 0 4 dX9_init_169 rfl rfl ?_
  refine J_iconst 4 dX9_init_170 (by decide) ?_
  refine J_icmp_geT 188 dX9_init_171 (by decide) (by decide) ?_
  refine J_rcong (r1 := RF 43 60 none) r_all2 ?_
  refine J_aload_n 0 1 113 dX9_init_188 rfl rfl ?_
  refine J_callVV 113 9 0 [] dX9_init_189 mv_X9_firstDraft mv_X9_firstDraftv lk_9_74 (ct_X9_firstDraft F (Nat.le_refl _) 43 60 none _) rfl rfl (by decide) rfl (by decide) ⟨by decide, by decide⟩ (Nat.le_of_ble_eq_true rfl) (fun m6 => ?_)
  refine J_aload_n 0 1 113 dX9_init_192 rfl rfl ?_
  refine J_callVV 113 9 0 [] dX9_init_193 mv_X9_keepDraft mv_X9_keepDraftv lk_9_77 (ct_X9_keepDraft F (Nat.le_refl _) 43 60 none m6) rfl rfl (by decide) rfl (by decide) ⟨by decide, by decide⟩ (Nat.le_of_ble_eq_true rfl) (fun m7 => ?_)
  exact J_vret dX9_init_196 rfl rfl

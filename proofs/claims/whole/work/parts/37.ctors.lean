theorem dX0_init_0 : decode cX0_init 0 = .ok (.aload_n 0, 1) := by decide +kernel
theorem dX0_init_1 : decode cX0_init 1 = .ok (.invokespecial 3, 3) := by decide +kernel
theorem lo_0_3 : Cond.methodLink RX0 3 objectInit ∈ TBg := tb 81 (by decide +kernel) rfl
theorem dX0_init_4 : decode cX0_init 4 = .ok (.aload_n 0, 1) := by decide +kernel
theorem dX0_init_5 : decode cX0_init 5 = .ok (.bipush 12, 2) := by decide +kernel
theorem dX0_init_7 : decode cX0_init 7 = .ok (.newarray .int, 2) := by decide +kernel
theorem ac_I : Cond.arrayClass .int ∈ TBg := tb 118 (by decide +kernel) rfl
theorem dX0_init_9 : decode cX0_init 9 = .ok (.putfield 9, 3) := by decide +kernel
theorem dX0_init_12 : decode cX0_init 12 = .ok (.aload_n 0, 1) := by decide +kernel
theorem dX0_init_13 : decode cX0_init 13 = .ok (.bipush 12, 2) := by decide +kernel
theorem dX0_init_15 : decode cX0_init 15 = .ok (.newarray .int, 2) := by decide +kernel
theorem dX0_init_17 : decode cX0_init 17 = .ok (.putfield 15, 3) := by decide +kernel
theorem dX0_init_20 : decode cX0_init 20 = .ok (.aload_n 0, 1) := by decide +kernel
theorem dX0_init_21 : decode cX0_init 21 = .ok (.bipush 12, 2) := by decide +kernel
theorem dX0_init_23 : decode cX0_init 23 = .ok (.newarray .int, 2) := by decide +kernel
theorem dX0_init_25 : decode cX0_init 25 = .ok (.putfield 18, 3) := by decide +kernel
theorem dX0_init_28 : decode cX0_init 28 = .ok (.aload_n 0, 1) := by decide +kernel
theorem dX0_init_29 : decode cX0_init 29 = .ok (.bipush 12, 2) := by decide +kernel
theorem dX0_init_31 : decode cX0_init 31 = .ok (.newarray .int, 2) := by decide +kernel
theorem dX0_init_33 : decode cX0_init 33 = .ok (.putfield 21, 3) := by decide +kernel
theorem dX0_init_36 : decode cX0_init 36 = .ok (.aload_n 0, 1) := by decide +kernel
theorem dX0_init_37 : decode cX0_init 37 = .ok (.bipush 12, 2) := by decide +kernel
theorem dX0_init_39 : decode cX0_init 39 = .ok (.newarray .int, 2) := by decide +kernel
theorem dX0_init_41 : decode cX0_init 41 = .ok (.putfield 24, 3) := by decide +kernel
theorem dX0_init_44 : decode cX0_init 44 = .ok (.aload_n 0, 1) := by decide +kernel
theorem dX0_init_45 : decode cX0_init 45 = .ok (.bipush 12, 2) := by decide +kernel
theorem dX0_init_47 : decode cX0_init 47 = .ok (.newarray .int, 2) := by decide +kernel
theorem dX0_init_49 : decode cX0_init 49 = .ok (.putfield 27, 3) := by decide +kernel
theorem dX0_init_52 : decode cX0_init 52 = .ok (.return_, 1) := by decide +kernel
theorem dX1_init_0 : decode cX1_init 0 = .ok (.aload_n 0, 1) := by decide +kernel
theorem dX1_init_1 : decode cX1_init 1 = .ok (.invokespecial 3, 3) := by decide +kernel
theorem lo_1_3 : Cond.methodLink RX1 3 objectInit ∈ TBg := tb 251 (by decide +kernel) rfl
theorem dX1_init_4 : decode cX1_init 4 = .ok (.aload_n 0, 1) := by decide +kernel
theorem dX1_init_5 : decode cX1_init 5 = .ok (.bipush 8, 2) := by decide +kernel
theorem dX1_init_7 : decode cX1_init 7 = .ok (.newarray .int, 2) := by decide +kernel
theorem dX1_init_9 : decode cX1_init 9 = .ok (.putfield 9, 3) := by decide +kernel
theorem fl_1_9 : FL RX1 9 1 4 := ⟨by decide, by decide, tb 271 (by decide +kernel) rfl⟩
theorem dX1_init_12 : decode cX1_init 12 = .ok (.aload_n 0, 1) := by decide +kernel
theorem dX1_init_13 : decode cX1_init 13 = .ok (.bipush 8, 2) := by decide +kernel
theorem dX1_init_15 : decode cX1_init 15 = .ok (.newarray .int, 2) := by decide +kernel
theorem dX1_init_17 : decode cX1_init 17 = .ok (.putfield 15, 3) := by decide +kernel
theorem fl_1_15 : FL RX1 15 1 5 := ⟨by decide, by decide, tb 276 (by decide +kernel) rfl⟩
theorem dX1_init_20 : decode cX1_init 20 = .ok (.aload_n 0, 1) := by decide +kernel
theorem dX1_init_21 : decode cX1_init 21 = .ok (.bipush 8, 2) := by decide +kernel
theorem dX1_init_23 : decode cX1_init 23 = .ok (.newarray .int, 2) := by decide +kernel
theorem dX1_init_25 : decode cX1_init 25 = .ok (.putfield 18, 3) := by decide +kernel
theorem fl_1_18 : FL RX1 18 1 6 := ⟨by decide, by decide, tb 280 (by decide +kernel) rfl⟩
theorem dX1_init_28 : decode cX1_init 28 = .ok (.aload_n 0, 1) := by decide +kernel
theorem dX1_init_29 : decode cX1_init 29 = .ok (.bipush 8, 2) := by decide +kernel
theorem dX1_init_31 : decode cX1_init 31 = .ok (.newarray .int, 2) := by decide +kernel
theorem dX1_init_33 : decode cX1_init 33 = .ok (.putfield 21, 3) := by decide +kernel
theorem fl_1_21 : FL RX1 21 1 7 := ⟨by decide, by decide, tb 284 (by decide +kernel) rfl⟩
theorem dX1_init_36 : decode cX1_init 36 = .ok (.aload_n 0, 1) := by decide +kernel
theorem dX1_init_37 : decode cX1_init 37 = .ok (.bipush 10, 2) := by decide +kernel
theorem dX1_init_39 : decode cX1_init 39 = .ok (.newarray .int, 2) := by decide +kernel
theorem dX1_init_41 : decode cX1_init 41 = .ok (.putfield 24, 3) := by decide +kernel
theorem fl_1_24 : FL RX1 24 1 8 := ⟨by decide, by decide, tb 287 (by decide +kernel) rfl⟩
theorem dX1_init_44 : decode cX1_init 44 = .ok (.aload_n 0, 1) := by decide +kernel
theorem dX1_init_45 : decode cX1_init 45 = .ok (.bipush 10, 2) := by decide +kernel
theorem dX1_init_47 : decode cX1_init 47 = .ok (.newarray .int, 2) := by decide +kernel
theorem dX1_init_49 : decode cX1_init 49 = .ok (.putfield 27, 3) := by decide +kernel
theorem fl_1_27 : FL RX1 27 1 9 := ⟨by decide, by decide, tb 291 (by decide +kernel) rfl⟩
theorem dX1_init_52 : decode cX1_init 52 = .ok (.aload_n 0, 1) := by decide +kernel
theorem dX1_init_53 : decode cX1_init 53 = .ok (.bipush 10, 2) := by decide +kernel
theorem dX1_init_55 : decode cX1_init 55 = .ok (.newarray .int, 2) := by decide +kernel
theorem dX1_init_57 : decode cX1_init 57 = .ok (.putfield 30, 3) := by decide +kernel
theorem fl_1_30 : FL RX1 30 1 10 := ⟨by decide, by decide, tb 295 (by decide +kernel) rfl⟩
theorem dX1_init_60 : decode cX1_init 60 = .ok (.aload_n 0, 1) := by decide +kernel
theorem dX1_init_61 : decode cX1_init 61 = .ok (.bipush 10, 2) := by decide +kernel
theorem dX1_init_63 : decode cX1_init 63 = .ok (.newarray .int, 2) := by decide +kernel
theorem dX1_init_65 : decode cX1_init 65 = .ok (.putfield 33, 3) := by decide +kernel
theorem fl_1_33 : FL RX1 33 1 11 := ⟨by decide, by decide, tb 299 (by decide +kernel) rfl⟩
theorem dX1_init_68 : decode cX1_init 68 = .ok (.aload_n 0, 1) := by decide +kernel
theorem dX1_init_69 : decode cX1_init 69 = .ok (.bipush 10, 2) := by decide +kernel
theorem dX1_init_71 : decode cX1_init 71 = .ok (.newarray .int, 2) := by decide +kernel
theorem dX1_init_73 : decode cX1_init 73 = .ok (.putfield 36, 3) := by decide +kernel
theorem fl_1_36 : FL RX1 36 1 12 := ⟨by decide, by decide, tb 303 (by decide +kernel) rfl⟩
theorem dX1_init_76 : decode cX1_init 76 = .ok (.aload_n 0, 1) := by decide +kernel
theorem dX1_init_77 : decode cX1_init 77 = .ok (.bipush 10, 2) := by decide +kernel
theorem dX1_init_79 : decode cX1_init 79 = .ok (.newarray .int, 2) := by decide +kernel
theorem dX1_init_81 : decode cX1_init 81 = .ok (.putfield 39, 3) := by decide +kernel
theorem fl_1_39 : FL RX1 39 1 13 := ⟨by decide, by decide, tb 306 (by decide +kernel) rfl⟩
theorem dX1_init_84 : decode cX1_init 84 = .ok (.aload_n 0, 1) := by decide +kernel
theorem dX1_init_85 : decode cX1_init 85 = .ok (.iconst 4, 1) := by decide +kernel
theorem dX1_init_86 : decode cX1_init 86 = .ok (.newarray .int, 2) := by decide +kernel
theorem dX1_init_88 : decode cX1_init 88 = .ok (.putfield 42, 3) := by decide +kernel
theorem fl_1_42 : FL RX1 42 1 14 := ⟨by decide, by decide, tb 309 (by decide +kernel) rfl⟩
theorem dX1_init_91 : decode cX1_init 91 = .ok (.aload_n 0, 1) := by decide +kernel
theorem dX1_init_92 : decode cX1_init 92 = .ok (.iconst 4, 1) := by decide +kernel
theorem dX1_init_93 : decode cX1_init 93 = .ok (.newarray .int, 2) := by decide +kernel
theorem dX1_init_95 : decode cX1_init 95 = .ok (.putfield 45, 3) := by decide +kernel
theorem fl_1_45 : FL RX1 45 1 15 := ⟨by decide, by decide, tb 313 (by decide +kernel) rfl⟩
theorem dX1_init_98 : decode cX1_init 98 = .ok (.aload_n 0, 1) := by decide +kernel
theorem dX1_init_99 : decode cX1_init 99 = .ok (.iconst 4, 1) := by decide +kernel
theorem dX1_init_100 : decode cX1_init 100 = .ok (.newarray .int, 2) := by decide +kernel
theorem dX1_init_102 : decode cX1_init 102 = .ok (.putfield 48, 3) := by decide +kernel
theorem fl_1_48 : FL RX1 48 1 16 := ⟨by decide, by decide, tb 317 (by decide +kernel) rfl⟩
theorem dX1_init_105 : decode cX1_init 105 = .ok (.aload_n 0, 1) := by decide +kernel
theorem dX1_init_106 : decode cX1_init 106 = .ok (.iconst 3, 1) := by decide +kernel
theorem dX1_init_107 : decode cX1_init 107 = .ok (.newarray .int, 2) := by decide +kernel
theorem dX1_init_109 : decode cX1_init 109 = .ok (.putfield 51, 3) := by decide +kernel
theorem fl_1_51 : FL RX1 51 1 17 := ⟨by decide, by decide, tb 320 (by decide +kernel) rfl⟩
theorem dX1_init_112 : decode cX1_init 112 = .ok (.aload_n 0, 1) := by decide +kernel
theorem dX1_init_113 : decode cX1_init 113 = .ok (.iconst 3, 1) := by decide +kernel
theorem dX1_init_114 : decode cX1_init 114 = .ok (.newarray .int, 2) := by decide +kernel
theorem dX1_init_116 : decode cX1_init 116 = .ok (.putfield 54, 3) := by decide +kernel
theorem fl_1_54 : FL RX1 54 1 18 := ⟨by decide, by decide, tb 324 (by decide +kernel) rfl⟩
theorem dX1_init_119 : decode cX1_init 119 = .ok (.aload_n 0, 1) := by decide +kernel
theorem dX1_init_120 : decode cX1_init 120 = .ok (.iconst 5, 1) := by decide +kernel
theorem dX1_init_121 : decode cX1_init 121 = .ok (.newarray .int, 2) := by decide +kernel
theorem dX1_init_123 : decode cX1_init 123 = .ok (.putfield 57, 3) := by decide +kernel
theorem dX1_init_126 : decode cX1_init 126 = .ok (.return_, 1) := by decide +kernel
theorem dX2_init_0 : decode cX2_init 0 = .ok (.aload_n 0, 1) := by decide +kernel
theorem dX2_init_1 : decode cX2_init 1 = .ok (.invokespecial 3, 3) := by decide +kernel
theorem lo_2_3 : Cond.methodLink RX2 3 objectInit ∈ TBg := tb 32 (by decide +kernel) rfl
theorem dX2_init_4 : decode cX2_init 4 = .ok (.aload_n 0, 1) := by decide +kernel
theorem dX2_init_5 : decode cX2_init 5 = .ok (.sipush 400, 3) := by decide +kernel
theorem dX2_init_8 : decode cX2_init 8 = .ok (.newarray .byte, 2) := by decide +kernel
theorem ac_B : Cond.arrayClass .byte ∈ TBg := tb 68 (by decide +kernel) rfl
theorem dX2_init_10 : decode cX2_init 10 = .ok (.putfield 9, 3) := by decide +kernel
theorem dX2_init_13 : decode cX2_init 13 = .ok (.aload_n 0, 1) := by decide +kernel
theorem dX2_init_14 : decode cX2_init 14 = .ok (.iconst 5, 1) := by decide +kernel
theorem dX2_init_15 : decode cX2_init 15 = .ok (.newarray .boolean, 2) := by decide +kernel
theorem ac_Z : Cond.arrayClass .boolean ∈ TBg := tb 69 (by decide +kernel) rfl
theorem dX2_init_17 : decode cX2_init 17 = .ok (.putfield 15, 3) := by decide +kernel
theorem dX2_init_20 : decode cX2_init 20 = .ok (.return_, 1) := by decide +kernel
theorem dX3_init_0 : decode cX3_init 0 = .ok (.aload_n 0, 1) := by decide +kernel
theorem dX3_init_1 : decode cX3_init 1 = .ok (.invokespecial 3, 3) := by decide +kernel
theorem lo_3_3 : Cond.methodLink RX3 3 objectInit ∈ TBg := tb 124 (by decide +kernel) rfl
theorem dX3_init_4 : decode cX3_init 4 = .ok (.return_, 1) := by decide +kernel
theorem dX4_init_0 : decode cX4_init 0 = .ok (.aload_n 0, 1) := by decide +kernel
theorem dX4_init_1 : decode cX4_init 1 = .ok (.invokespecial 3, 3) := by decide +kernel
theorem lo_4_3 : Cond.methodLink RX4 3 objectInit ∈ TBg := tb 194 (by decide +kernel) rfl
theorem dX4_init_4 : decode cX4_init 4 = .ok (.aload_n 0, 1) := by decide +kernel
theorem dX4_init_5 : decode cX4_init 5 = .ok (.bipush 14, 2) := by decide +kernel
theorem dX4_init_7 : decode cX4_init 7 = .ok (.newarray .int, 2) := by decide +kernel
theorem dX4_init_9 : decode cX4_init 9 = .ok (.putfield 9, 3) := by decide +kernel
theorem dX4_init_12 : decode cX4_init 12 = .ok (.aload_n 0, 1) := by decide +kernel
theorem dX4_init_13 : decode cX4_init 13 = .ok (.iconst 3, 1) := by decide +kernel
theorem dX4_init_14 : decode cX4_init 14 = .ok (.newarray .int, 2) := by decide +kernel
theorem dX4_init_16 : decode cX4_init 16 = .ok (.putfield 15, 3) := by decide +kernel
theorem dX4_init_19 : decode cX4_init 19 = .ok (.aload_n 0, 1) := by decide +kernel
theorem dX4_init_20 : decode cX4_init 20 = .ok (.iconst 3, 1) := by decide +kernel
theorem dX4_init_21 : decode cX4_init 21 = .ok (.newarray .int, 2) := by decide +kernel
theorem dX4_init_23 : decode cX4_init 23 = .ok (.putfield 18, 3) := by decide +kernel
theorem dX4_init_26 : decode cX4_init 26 = .ok (.aload_n 0, 1) := by decide +kernel
theorem dX4_init_27 : decode cX4_init 27 = .ok (.iconst 3, 1) := by decide +kernel
theorem dX4_init_28 : decode cX4_init 28 = .ok (.newarray .int, 2) := by decide +kernel
theorem dX4_init_30 : decode cX4_init 30 = .ok (.putfield 21, 3) := by decide +kernel
theorem dX4_init_33 : decode cX4_init 33 = .ok (.aload_n 0, 1) := by decide +kernel
theorem dX4_init_34 : decode cX4_init 34 = .ok (.bipush (-4), 2) := by decide +kernel
theorem dX4_init_36 : decode cX4_init 36 = .ok (.putfield 24, 3) := by decide +kernel
theorem dX4_init_39 : decode cX4_init 39 = .ok (.return_, 1) := by decide +kernel
theorem dX5_init_0 : decode cX5_init 0 = .ok (.aload_n 0, 1) := by decide +kernel
theorem dX5_init_1 : decode cX5_init 1 = .ok (.invokespecial 3, 3) := by decide +kernel
theorem lo_5_3 : Cond.methodLink RX5 3 objectInit ∈ TBg := tb 378 (by decide +kernel) rfl
theorem dX5_init_4 : decode cX5_init 4 = .ok (.aload_n 0, 1) := by decide +kernel
theorem dX5_init_5 : decode cX5_init 5 = .ok (.bipush (-4), 2) := by decide +kernel
theorem dX5_init_7 : decode cX5_init 7 = .ok (.putfield 9, 3) := by decide +kernel
theorem dX5_init_10 : decode cX5_init 10 = .ok (.aload_n 0, 1) := by decide +kernel
theorem dX5_init_11 : decode cX5_init 11 = .ok (.bipush 40, 2) := by decide +kernel
theorem dX5_init_13 : decode cX5_init 13 = .ok (.newarray .int, 2) := by decide +kernel
theorem dX5_init_15 : decode cX5_init 15 = .ok (.putfield 15, 3) := by decide +kernel
theorem dX5_init_18 : decode cX5_init 18 = .ok (.return_, 1) := by decide +kernel
theorem dX6_init_0 : decode cX6_init 0 = .ok (.aload_n 0, 1) := by decide +kernel
theorem dX6_init_1 : decode cX6_init 1 = .ok (.invokespecial 3, 3) := by decide +kernel
theorem lo_6_3 : Cond.methodLink RX6 3 objectInit ∈ TBg := tb 235 (by decide +kernel) rfl
theorem dX6_init_4 : decode cX6_init 4 = .ok (.aload_n 0, 1) := by decide +kernel
theorem dX6_init_5 : decode cX6_init 5 = .ok (.bipush 8, 2) := by decide +kernel
theorem dX6_init_7 : decode cX6_init 7 = .ok (.newarray .int, 2) := by decide +kernel
theorem dX6_init_9 : decode cX6_init 9 = .ok (.putfield 9, 3) := by decide +kernel
theorem dX6_init_12 : decode cX6_init 12 = .ok (.return_, 1) := by decide +kernel
theorem dX7_init_0 : decode cX7_init 0 = .ok (.aload_n 0, 1) := by decide +kernel
theorem dX7_init_1 : decode cX7_init 1 = .ok (.invokespecial 3, 3) := by decide +kernel
theorem lo_7_3 : Cond.methodLink RX7 3 objectInit ∈ TBg := tb 75 (by decide +kernel) rfl
theorem dX7_init_4 : decode cX7_init 4 = .ok (.aload_n 0, 1) := by decide +kernel
theorem dX7_init_5 : decode cX7_init 5 = .ok (.bipush 8, 2) := by decide +kernel
theorem dX7_init_7 : decode cX7_init 7 = .ok (.newarray .int, 2) := by decide +kernel
theorem dX7_init_9 : decode cX7_init 9 = .ok (.putfield 9, 3) := by decide +kernel
theorem dX7_init_12 : decode cX7_init 12 = .ok (.aload_n 0, 1) := by decide +kernel
theorem dX7_init_13 : decode cX7_init 13 = .ok (.bipush 8, 2) := by decide +kernel
theorem dX7_init_15 : decode cX7_init 15 = .ok (.newarray .int, 2) := by decide +kernel
theorem dX7_init_17 : decode cX7_init 17 = .ok (.putfield 15, 3) := by decide +kernel
theorem dX7_init_20 : decode cX7_init 20 = .ok (.aload_n 0, 1) := by decide +kernel
theorem dX7_init_21 : decode cX7_init 21 = .ok (.bipush 10, 2) := by decide +kernel
theorem dX7_init_23 : decode cX7_init 23 = .ok (.newarray .int, 2) := by decide +kernel
theorem dX7_init_25 : decode cX7_init 25 = .ok (.putfield 18, 3) := by decide +kernel
theorem dX7_init_28 : decode cX7_init 28 = .ok (.aload_n 0, 1) := by decide +kernel
theorem dX7_init_29 : decode cX7_init 29 = .ok (.iconst 4, 1) := by decide +kernel
theorem dX7_init_30 : decode cX7_init 30 = .ok (.newarray .int, 2) := by decide +kernel
theorem dX7_init_32 : decode cX7_init 32 = .ok (.putfield 21, 3) := by decide +kernel
theorem dX7_init_35 : decode cX7_init 35 = .ok (.aload_n 0, 1) := by decide +kernel
theorem dX7_init_36 : decode cX7_init 36 = .ok (.iconst 3, 1) := by decide +kernel
theorem dX7_init_37 : decode cX7_init 37 = .ok (.newarray .int, 2) := by decide +kernel
theorem dX7_init_39 : decode cX7_init 39 = .ok (.putfield 24, 3) := by decide +kernel
theorem dX7_init_42 : decode cX7_init 42 = .ok (.aload_n 0, 1) := by decide +kernel
theorem dX7_init_43 : decode cX7_init 43 = .ok (.new 27, 3) := by decide +kernel
theorem cl_7_27 : Cond.classLink RX7 27 RX0 ∈ TBg := tb 76 (by decide +kernel) rfl
theorem ins_0 : Cond.instantiable RX0 7 ∈ TBg := tb 77 (by decide +kernel) rfl
theorem ini_0 : Cond.initialized RX0 ∈ TBg := tb 4 (by decide +kernel) rfl
theorem dX7_init_46 : decode cX7_init 46 = .ok (.dup, 1) := by decide +kernel
theorem dX7_init_47 : decode cX7_init 47 = .ok (.invokespecial 29, 3) := by decide +kernel
theorem mv_X0_init : MV yX0_init cX0_init 1 none 0 := ⟨tb 80 (by decide +kernel) rfl, tb 4 (by decide +kernel) rfl, by decide +kernel⟩
theorem mvI_X0_init : Cond.instanceMethod yX0_init ∈ TBg := tb 79 (by decide +kernel) rfl
theorem ln_7_29 : Cond.methodLinkNest RX7 29 yX0_init "WhichHold" ∈ NWl := tbN 78 (by decide +kernel) rfl
theorem dX7_init_50 : decode cX7_init 50 = .ok (.putfield 30, 3) := by decide +kernel
theorem dX7_init_53 : decode cX7_init 53 = .ok (.aload_n 0, 1) := by decide +kernel
theorem dX7_init_54 : decode cX7_init 54 = .ok (.new 34, 3) := by decide +kernel
theorem cl_7_34 : Cond.classLink RX7 34 RX3 ∈ TBg := tb 119 (by decide +kernel) rfl
theorem ins_3 : Cond.instantiable RX3 3 ∈ TBg := tb 120 (by decide +kernel) rfl
theorem ini_3 : Cond.initialized RX3 ∈ TBg := tb 5 (by decide +kernel) rfl
theorem dX7_init_57 : decode cX7_init 57 = .ok (.dup, 1) := by decide +kernel
theorem dX7_init_58 : decode cX7_init 58 = .ok (.invokespecial 36, 3) := by decide +kernel
theorem mv_X3_init : MV yX3_init cX3_init 1 none 0 := ⟨tb 123 (by decide +kernel) rfl, tb 5 (by decide +kernel) rfl, by decide +kernel⟩
theorem mvI_X3_init : Cond.instanceMethod yX3_init ∈ TBg := tb 122 (by decide +kernel) rfl
theorem ln_7_36 : Cond.methodLinkNest RX7 36 yX3_init "WhichHold" ∈ NWl := tbN 121 (by decide +kernel) rfl
theorem dX7_init_61 : decode cX7_init 61 = .ok (.putfield 37, 3) := by decide +kernel
theorem dX7_init_64 : decode cX7_init 64 = .ok (.return_, 1) := by decide +kernel
set_option maxHeartbeats 4000000 in
set_option maxRecDepth 100000 in
theorem ct_X0_init (O : Nat) (hO : isOr O) (m : Mm) (hm : ∀ b, O < b → m b = fun _ => 0) (L : List (Nat × Nat × Nat)) : Ct yX0_init cX0_init 1 none 1 21 [.ref O] (O + 1) (O + 7) m (rL L) (some (none, m, rL ((O, 6, (O + 6)) :: (O, 5, (O + 5)) :: (O, 4, (O + 4)) :: (O, 3, (O + 3)) :: (O, 2, (O + 2)) :: (O, 1, (O + 1)) :: L))) := by
  refine Ct.of (by decide) (by omega) (Nat.le_of_ble_eq_true rfl) ?_
  show J RX0 cX0_init 1 none "<init>" 1 21 (O + 1) (O + 7) 0 [(0, .ref O)] [] (O + 1) m (rL L) (some (none, m, rL ((O, 6, (O + 6)) :: (O, 5, (O + 5)) :: (O, 4, (O + 4)) :: (O, 3, (O + 3)) :: (O, 2, (O + 2)) :: (O, 1, (O + 1)) :: L))) some
  refine J_aload_n 0 0 O dX0_init_0 rfl rfl ?_
  refine J_objInit dX0_init_1 lo_0_3 (by decide) (Nat.le_of_ble_eq_true rfl) ?_
  refine J_aload_n 0 0 O dX0_init_4 rfl rfl ?_
  refine J_bipush 12 dX0_init_5 (by decide) ?_
  refine J_newI 12 dX0_init_7 (by decide) (by decide) (by decide) ac_I (lay_Or_1 hO) (hm _ (by omega)) (by omega) ?_
  refine J_putRF O 0 1 (O + 1) dX0_init_9 fl_0_9 (layc_Or_0 hO) rfl (by omega) rfl rfl rfl (fun _ => rfl) (fun _ => rfl) ?_
  rw [rL_cons]
  refine J_aload_n 0 0 O dX0_init_12 rfl rfl ?_
  refine J_bipush 12 dX0_init_13 (by decide) ?_
  refine J_newI 12 dX0_init_15 (by decide) (by decide) (by decide) ac_I (lay_Or_2 hO) (hm _ (by omega)) (by omega) ?_
  refine J_putRF O 0 2 (O + 2) dX0_init_17 fl_0_15 (layc_Or_0 hO) rfl (by omega) rfl rfl rfl (fun _ => rfl) (fun _ => rfl) ?_
  rw [rL_cons]
  refine J_aload_n 0 0 O dX0_init_20 rfl rfl ?_
  refine J_bipush 12 dX0_init_21 (by decide) ?_
  refine J_newI 12 dX0_init_23 (by decide) (by decide) (by decide) ac_I (lay_Or_3 hO) (hm _ (by omega)) (by omega) ?_
  refine J_putRF O 0 3 (O + 3) dX0_init_25 fl_0_18 (layc_Or_0 hO) rfl (by omega) rfl rfl rfl (fun _ => rfl) (fun _ => rfl) ?_
  rw [rL_cons]
  refine J_aload_n 0 0 O dX0_init_28 rfl rfl ?_
  refine J_bipush 12 dX0_init_29 (by decide) ?_
  refine J_newI 12 dX0_init_31 (by decide) (by decide) (by decide) ac_I (lay_Or_4 hO) (hm _ (by omega)) (by omega) ?_
  refine J_putRF O 0 4 (O + 4) dX0_init_33 fl_0_21 (layc_Or_0 hO) rfl (by omega) rfl rfl rfl (fun _ => rfl) (fun _ => rfl) ?_
  rw [rL_cons]
  refine J_aload_n 0 0 O dX0_init_36 rfl rfl ?_
  refine J_bipush 12 dX0_init_37 (by decide) ?_
  refine J_newI 12 dX0_init_39 (by decide) (by decide) (by decide) ac_I (lay_Or_5 hO) (hm _ (by omega)) (by omega) ?_
  refine J_putRF O 0 5 (O + 5) dX0_init_41 fl_0_24 (layc_Or_0 hO) rfl (by omega) rfl rfl rfl (fun _ => rfl) (fun _ => rfl) ?_
  rw [rL_cons]
  refine J_aload_n 0 0 O dX0_init_44 rfl rfl ?_
  refine J_bipush 12 dX0_init_45 (by decide) ?_
  refine J_newI 12 dX0_init_47 (by decide) (by decide) (by decide) ac_I (lay_Or_6 hO) (hm _ (by omega)) (by omega) ?_
  refine J_putRF O 0 6 (O + 6) dX0_init_49 fl_0_27 (layc_Or_0 hO) rfl (by omega) rfl rfl rfl (fun _ => rfl) (fun _ => rfl) ?_
  rw [rL_cons]
  exact J_vret dX0_init_52 rfl rfl
set_option maxHeartbeats 4000000 in
set_option maxRecDepth 100000 in
theorem ct_X1_init (Q : Nat) (hQ : isPl Q) (m : Mm) (hm : ∀ b, Q < b → m b = fun _ => 0) (L : List (Nat × Nat × Nat)) : Ct yX1_init cX1_init 1 none 1 21 [.ref Q] (Q + 1) (Q + 17) m (rL L) (some (none, m, rL ((Q, 19, (Q + 16)) :: (Q, 18, (Q + 15)) :: (Q, 17, (Q + 14)) :: (Q, 16, (Q + 13)) :: (Q, 15, (Q + 12)) :: (Q, 14, (Q + 11)) :: (Q, 13, (Q + 10)) :: (Q, 12, (Q + 9)) :: (Q, 11, (Q + 8)) :: (Q, 10, (Q + 7)) :: (Q, 9, (Q + 6)) :: (Q, 8, (Q + 5)) :: (Q, 7, (Q + 4)) :: (Q, 6, (Q + 3)) :: (Q, 5, (Q + 2)) :: (Q, 4, (Q + 1)) :: L))) := by
  refine Ct.of (by decide) (by omega) (Nat.le_of_ble_eq_true rfl) ?_
  show J RX1 cX1_init 1 none "<init>" 1 21 (Q + 1) (Q + 17) 0 [(0, .ref Q)] [] (Q + 1) m (rL L) (some (none, m, rL ((Q, 19, (Q + 16)) :: (Q, 18, (Q + 15)) :: (Q, 17, (Q + 14)) :: (Q, 16, (Q + 13)) :: (Q, 15, (Q + 12)) :: (Q, 14, (Q + 11)) :: (Q, 13, (Q + 10)) :: (Q, 12, (Q + 9)) :: (Q, 11, (Q + 8)) :: (Q, 10, (Q + 7)) :: (Q, 9, (Q + 6)) :: (Q, 8, (Q + 5)) :: (Q, 7, (Q + 4)) :: (Q, 6, (Q + 3)) :: (Q, 5, (Q + 2)) :: (Q, 4, (Q + 1)) :: L))) some
  refine J_aload_n 0 0 Q dX1_init_0 rfl rfl ?_
  refine J_objInit dX1_init_1 lo_1_3 (by decide) (Nat.le_of_ble_eq_true rfl) ?_
  refine J_aload_n 0 0 Q dX1_init_4 rfl rfl ?_
  refine J_bipush 8 dX1_init_5 (by decide) ?_
  refine J_newI 8 dX1_init_7 (by decide) (by decide) (by decide) ac_I (lay_Pl_1 hQ) (hm _ (by omega)) (by omega) ?_
  refine J_putRF Q 1 4 (Q + 1) dX1_init_9 fl_1_9 (layc_Pl_0 hQ) rfl (by omega) rfl rfl rfl (fun _ => rfl) (fun _ => rfl) ?_
  rw [rL_cons]
  refine J_aload_n 0 0 Q dX1_init_12 rfl rfl ?_
  refine J_bipush 8 dX1_init_13 (by decide) ?_
  refine J_newI 8 dX1_init_15 (by decide) (by decide) (by decide) ac_I (lay_Pl_2 hQ) (hm _ (by omega)) (by omega) ?_
  refine J_putRF Q 1 5 (Q + 2) dX1_init_17 fl_1_15 (layc_Pl_0 hQ) rfl (by omega) rfl rfl rfl (fun _ => rfl) (fun _ => rfl) ?_
  rw [rL_cons]
  refine J_aload_n 0 0 Q dX1_init_20 rfl rfl ?_
  refine J_bipush 8 dX1_init_21 (by decide) ?_
  refine J_newI 8 dX1_init_23 (by decide) (by decide) (by decide) ac_I (lay_Pl_3 hQ) (hm _ (by omega)) (by omega) ?_
  refine J_putRF Q 1 6 (Q + 3) dX1_init_25 fl_1_18 (layc_Pl_0 hQ) rfl (by omega) rfl rfl rfl (fun _ => rfl) (fun _ => rfl) ?_
  rw [rL_cons]
  refine J_aload_n 0 0 Q dX1_init_28 rfl rfl ?_
  refine J_bipush 8 dX1_init_29 (by decide) ?_
  refine J_newI 8 dX1_init_31 (by decide) (by decide) (by decide) ac_I (lay_Pl_4 hQ) (hm _ (by omega)) (by omega) ?_
  refine J_putRF Q 1 7 (Q + 4) dX1_init_33 fl_1_21 (layc_Pl_0 hQ) rfl (by omega) rfl rfl rfl (fun _ => rfl) (fun _ => rfl) ?_
  rw [rL_cons]
  refine J_aload_n 0 0 Q dX1_init_36 rfl rfl ?_
  refine J_bipush 10 dX1_init_37 (by decide) ?_
  refine J_newI 10 dX1_init_39 (by decide) (by decide) (by decide) ac_I (lay_Pl_5 hQ) (hm _ (by omega)) (by omega) ?_
  refine J_putRF Q 1 8 (Q + 5) dX1_init_41 fl_1_24 (layc_Pl_0 hQ) rfl (by omega) rfl rfl rfl (fun _ => rfl) (fun _ => rfl) ?_
  rw [rL_cons]
  refine J_aload_n 0 0 Q dX1_init_44 rfl rfl ?_
  refine J_bipush 10 dX1_init_45 (by decide) ?_
  refine J_newI 10 dX1_init_47 (by decide) (by decide) (by decide) ac_I (lay_Pl_6 hQ) (hm _ (by omega)) (by omega) ?_
  refine J_putRF Q 1 9 (Q + 6) dX1_init_49 fl_1_27 (layc_Pl_0 hQ) rfl (by omega) rfl rfl rfl (fun _ => rfl) (fun _ => rfl) ?_
  rw [rL_cons]
  refine J_aload_n 0 0 Q dX1_init_52 rfl rfl ?_
  refine J_bipush 10 dX1_init_53 (by decide) ?_
  refine J_newI 10 dX1_init_55 (by decide) (by decide) (by decide) ac_I (lay_Pl_7 hQ) (hm _ (by omega)) (by omega) ?_
  refine J_putRF Q 1 10 (Q + 7) dX1_init_57 fl_1_30 (layc_Pl_0 hQ) rfl (by omega) rfl rfl rfl (fun _ => rfl) (fun _ => rfl) ?_
  rw [rL_cons]
  refine J_aload_n 0 0 Q dX1_init_60 rfl rfl ?_
  refine J_bipush 10 dX1_init_61 (by decide) ?_
  refine J_newI 10 dX1_init_63 (by decide) (by decide) (by decide) ac_I (lay_Pl_8 hQ) (hm _ (by omega)) (by omega) ?_
  refine J_putRF Q 1 11 (Q + 8) dX1_init_65 fl_1_33 (layc_Pl_0 hQ) rfl (by omega) rfl rfl rfl (fun _ => rfl) (fun _ => rfl) ?_
  rw [rL_cons]
  refine J_aload_n 0 0 Q dX1_init_68 rfl rfl ?_
  refine J_bipush 10 dX1_init_69 (by decide) ?_
  refine J_newI 10 dX1_init_71 (by decide) (by decide) (by decide) ac_I (lay_Pl_9 hQ) (hm _ (by omega)) (by omega) ?_
  refine J_putRF Q 1 12 (Q + 9) dX1_init_73 fl_1_36 (layc_Pl_0 hQ) rfl (by omega) rfl rfl rfl (fun _ => rfl) (fun _ => rfl) ?_
  rw [rL_cons]
  refine J_aload_n 0 0 Q dX1_init_76 rfl rfl ?_
  refine J_bipush 10 dX1_init_77 (by decide) ?_
  refine J_newI 10 dX1_init_79 (by decide) (by decide) (by decide) ac_I (lay_Pl_10 hQ) (hm _ (by omega)) (by omega) ?_
  refine J_putRF Q 1 13 (Q + 10) dX1_init_81 fl_1_39 (layc_Pl_0 hQ) rfl (by omega) rfl rfl rfl (fun _ => rfl) (fun _ => rfl) ?_
  rw [rL_cons]
  refine J_aload_n 0 0 Q dX1_init_84 rfl rfl ?_
  refine J_iconst 4 dX1_init_85 (by decide) ?_
  refine J_newI 4 dX1_init_86 (by decide) (by decide) (by decide) ac_I (lay_Pl_11 hQ) (hm _ (by omega)) (by omega) ?_
  refine J_putRF Q 1 14 (Q + 11) dX1_init_88 fl_1_42 (layc_Pl_0 hQ) rfl (by omega) rfl rfl rfl (fun _ => rfl) (fun _ => rfl) ?_
  rw [rL_cons]
  refine J_aload_n 0 0 Q dX1_init_91 rfl rfl ?_
  refine J_iconst 4 dX1_init_92 (by decide) ?_
  refine J_newI 4 dX1_init_93 (by decide) (by decide) (by decide) ac_I (lay_Pl_12 hQ) (hm _ (by omega)) (by omega) ?_
  refine J_putRF Q 1 15 (Q + 12) dX1_init_95 fl_1_45 (layc_Pl_0 hQ) rfl (by omega) rfl rfl rfl (fun _ => rfl) (fun _ => rfl) ?_
  rw [rL_cons]
  refine J_aload_n 0 0 Q dX1_init_98 rfl rfl ?_
  refine J_iconst 4 dX1_init_99 (by decide) ?_
  refine J_newI 4 dX1_init_100 (by decide) (by decide) (by decide) ac_I (lay_Pl_13 hQ) (hm _ (by omega)) (by omega) ?_
  refine J_putRF Q 1 16 (Q + 13) dX1_init_102 fl_1_48 (layc_Pl_0 hQ) rfl (by omega) rfl rfl rfl (fun _ => rfl) (fun _ => rfl) ?_
  rw [rL_cons]
  refine J_aload_n 0 0 Q dX1_init_105 rfl rfl ?_
  refine J_iconst 3 dX1_init_106 (by decide) ?_
  refine J_newI 3 dX1_init_107 (by decide) (by decide) (by decide) ac_I (lay_Pl_14 hQ) (hm _ (by omega)) (by omega) ?_
  refine J_putRF Q 1 17 (Q + 14) dX1_init_109 fl_1_51 (layc_Pl_0 hQ) rfl (by omega) rfl rfl rfl (fun _ => rfl) (fun _ => rfl) ?_
  rw [rL_cons]
  refine J_aload_n 0 0 Q dX1_init_112 rfl rfl ?_
  refine J_iconst 3 dX1_init_113 (by decide) ?_
  refine J_newI 3 dX1_init_114 (by decide) (by decide) (by decide) ac_I (lay_Pl_15 hQ) (hm _ (by omega)) (by omega) ?_
  refine J_putRF Q 1 18 (Q + 15) dX1_init_116 fl_1_54 (layc_Pl_0 hQ) rfl (by omega) rfl rfl rfl (fun _ => rfl) (fun _ => rfl) ?_
  rw [rL_cons]
  refine J_aload_n 0 0 Q dX1_init_119 rfl rfl ?_
  refine J_iconst 5 dX1_init_120 (by decide) ?_
  refine J_newI 5 dX1_init_121 (by decide) (by decide) (by decide) ac_I (lay_Pl_16 hQ) (hm _ (by omega)) (by omega) ?_
  refine J_putRF Q 1 19 (Q + 16) dX1_init_123 fl_1_57 (layc_Pl_0 hQ) rfl (by omega) rfl rfl rfl (fun _ => rfl) (fun _ => rfl) ?_
  rw [rL_cons]
  exact J_vret dX1_init_126 rfl rfl
set_option maxHeartbeats 4000000 in
set_option maxRecDepth 100000 in
theorem ct_X2_init (m : Mm) (hm : ∀ b, 1 < b → m b = fun _ => 0) (L : List (Nat × Nat × Nat)) : Ct yX2_init cX2_init 1 none 1 21 [.ref 1] 2 4 m (rL L) (some (none, m, rL ((1, 5, 3) :: (1, 0, 2) :: L))) := by
  refine Ct.of (by decide) (by omega) (Nat.le_of_ble_eq_true rfl) ?_
  show J RX2 cX2_init 1 none "<init>" 1 21 2 4 0 [(0, .ref 1)] [] 2 m (rL L) (some (none, m, rL ((1, 5, 3) :: (1, 0, 2) :: L))) some
  refine J_aload_n 0 0 1 dX2_init_0 rfl rfl ?_
  refine J_objInit dX2_init_1 lo_2_3 (by decide) (Nat.le_of_ble_eq_true rfl) ?_
  refine J_aload_n 0 0 1 dX2_init_4 rfl rfl ?_
  refine J_sipush 400 dX2_init_5 (by decide) ?_
  refine J_newB 400 dX2_init_8 (by decide) (by decide) (by decide) ac_B rfl (hm _ (by omega)) (by omega) ?_
  refine J_putRF 1 2 0 2 dX2_init_10 fl_2_9 rfl rfl (by omega) rfl rfl rfl (fun _ => rfl) (fun _ => rfl) ?_
  rw [rL_cons]
  refine J_aload_n 0 0 1 dX2_init_13 rfl rfl ?_
  refine J_iconst 5 dX2_init_14 (by decide) ?_
  refine J_newZ 5 dX2_init_15 (by decide) (by decide) (by decide) ac_Z rfl (hm _ (by omega)) (by omega) ?_
  refine J_putRF 1 2 5 3 dX2_init_17 fl_2_15 rfl rfl (by omega) rfl rfl rfl (fun _ => rfl) (fun _ => rfl) ?_
  rw [rL_cons]
  exact J_vret dX2_init_20 rfl rfl
set_option maxHeartbeats 4000000 in
set_option maxRecDepth 100000 in
theorem ct_X3_init (C : Nat) (hC : isSc C) (m : Mm) (hm : ∀ b, C < b → m b = fun _ => 0) (L : List (Nat × Nat × Nat)) : Ct yX3_init cX3_init 1 none 1 21 [.ref C] (C + 1) (C + 1) m (rL L) (some (none, m, rL L)) := by
  refine Ct.of (by decide) (by omega) (Nat.le_of_ble_eq_true rfl) ?_
  show J RX3 cX3_init 1 none "<init>" 1 21 (C + 1) (C + 1) 0 [(0, .ref C)] [] (C + 1) m (rL L) (some (none, m, rL L)) some
  refine J_aload_n 0 0 C dX3_init_0 rfl rfl ?_
  refine J_objInit dX3_init_1 lo_3_3 (by decide) (Nat.le_of_ble_eq_true rfl) ?_
  exact J_vret dX3_init_4 rfl rfl
set_option maxHeartbeats 4000000 in
set_option maxRecDepth 100000 in
theorem ct_X4_init (m : Mm) (hm : ∀ b, 34 < b → m b = fun _ => 0) (L : List (Nat × Nat × Nat)) : Ct yX4_init cX4_init 1 none 1 21 [.ref 34] 35 39 m (rL L) (some (none, (up2 m 34 7 (-4)), rL ((34, 5, 38) :: (34, 4, 37) :: (34, 3, 36) :: (34, 2, 35) :: L))) := by
  refine Ct.of (by decide) (by omega) (Nat.le_of_ble_eq_true rfl) ?_
  show J RX4 cX4_init 1 none "<init>" 1 21 35 39 0 [(0, .ref 34)] [] 35 m (rL L) (some (none, (up2 m 34 7 (-4)), rL ((34, 5, 38) :: (34, 4, 37) :: (34, 3, 36) :: (34, 2, 35) :: L))) some
  refine J_aload_n 0 0 34 dX4_init_0 rfl rfl ?_
  refine J_objInit dX4_init_1 lo_4_3 (by decide) (Nat.le_of_ble_eq_true rfl) ?_
  refine J_aload_n 0 0 34 dX4_init_4 rfl rfl ?_
  refine J_bipush 14 dX4_init_5 (by decide) ?_
  refine J_newI 14 dX4_init_7 (by decide) (by decide) (by decide) ac_I rfl (hm _ (by omega)) (by omega) ?_
  refine J_putRF 34 4 2 35 dX4_init_9 fl_4_9 rfl rfl (by omega) rfl rfl rfl (fun _ => rfl) (fun _ => rfl) ?_
  rw [rL_cons]
  refine J_aload_n 0 0 34 dX4_init_12 rfl rfl ?_
  refine J_iconst 3 dX4_init_13 (by decide) ?_
  refine J_newI 3 dX4_init_14 (by decide) (by decide) (by decide) ac_I rfl (hm _ (by omega)) (by omega) ?_
  refine J_putRF 34 4 3 36 dX4_init_16 fl_4_15 rfl rfl (by omega) rfl rfl rfl (fun _ => rfl) (fun _ => rfl) ?_
  rw [rL_cons]
  refine J_aload_n 0 0 34 dX4_init_19 rfl rfl ?_
  refine J_iconst 3 dX4_init_20 (by decide) ?_
  refine J_newI 3 dX4_init_21 (by decide) (by decide) (by decide) ac_I rfl (hm _ (by omega)) (by omega) ?_
  refine J_putRF 34 4 4 37 dX4_init_23 fl_4_18 rfl rfl (by omega) rfl rfl rfl (fun _ => rfl) (fun _ => rfl) ?_
  rw [rL_cons]
  refine J_aload_n 0 0 34 dX4_init_26 rfl rfl ?_
  refine J_iconst 3 dX4_init_27 (by decide) ?_
  refine J_newI 3 dX4_init_28 (by decide) (by decide) (by decide) ac_I rfl (hm _ (by omega)) (by omega) ?_
  refine J_putRF 34 4 5 38 dX4_init_30 fl_4_21 rfl rfl (by omega) rfl rfl rfl (fun _ => rfl) (fun _ => rfl) ?_
  rw [rL_cons]
  refine J_aload_n 0 0 34 dX4_init_33 rfl rfl ?_
  refine J_bipush (-4) dX4_init_34 (by decide) ?_
  refine J_putId 34 4 7 dX4_init_36 fl_4_24 rfl rfl (by omega) rfl rfl rfl ?_
  exact J_vret dX4_init_39 rfl rfl
set_option maxHeartbeats 4000000 in
set_option maxRecDepth 100000 in
theorem ct_X5_init (H : Nat) (hH : isSh H) (m : Mm) (hm : ∀ b, H < b → m b = fun _ => 0) (L : List (Nat × Nat × Nat)) : Ct yX5_init cX5_init 1 none 1 21 [.ref H] (H + 1) (H + 2) m (rL L) (some (none, (up2 m H 1 (-4)), rL ((H, 2, (H + 1)) :: L))) := by
  refine Ct.of (by decide) (by omega) (Nat.le_of_ble_eq_true rfl) ?_
  show J RX5 cX5_init 1 none "<init>" 1 21 (H + 1) (H + 2) 0 [(0, .ref H)] [] (H + 1) m (rL L) (some (none, (up2 m H 1 (-4)), rL ((H, 2, (H + 1)) :: L))) some
  refine J_aload_n 0 0 H dX5_init_0 rfl rfl ?_
  refine J_objInit dX5_init_1 lo_5_3 (by decide) (Nat.le_of_ble_eq_true rfl) ?_
  refine J_aload_n 0 0 H dX5_init_4 rfl rfl ?_
  refine J_bipush (-4) dX5_init_5 (by decide) ?_
  refine J_putId H 5 1 dX5_init_7 fl_5_9 (layc_Sh_0 hH) rfl (by omega) rfl rfl rfl ?_
  refine J_aload_n 0 0 H dX5_init_10 rfl rfl ?_
  refine J_bipush 40 dX5_init_11 (by decide) ?_
  refine J_newI 40 dX5_init_13 (by decide) (by decide) (by decide) ac_I (lay_Sh_1 hH) (by rw [up2_ne (by omega)]; exact hm _ (by omega)) (by omega) ?_
  refine J_putRF H 5 2 (H + 1) dX5_init_15 fl_5_15 (layc_Sh_0 hH) rfl (by omega) rfl rfl rfl (fun _ => rfl) (fun _ => rfl) ?_
  rw [rL_cons]
  exact J_vret dX5_init_18 rfl rfl
set_option maxHeartbeats 4000000 in
set_option maxRecDepth 100000 in
theorem ct_X6_init (m : Mm) (hm : ∀ b, 40 < b → m b = fun _ => 0) (L : List (Nat × Nat × Nat)) : Ct yX6_init cX6_init 1 none 1 21 [.ref 40] 41 42 m (rL L) (some (none, m, rL ((40, 1, 41) :: L))) := by
  refine Ct.of (by decide) (by omega) (Nat.le_of_ble_eq_true rfl) ?_
  show J RX6 cX6_init 1 none "<init>" 1 21 41 42 0 [(0, .ref 40)] [] 41 m (rL L) (some (none, m, rL ((40, 1, 41) :: L))) some
  refine J_aload_n 0 0 40 dX6_init_0 rfl rfl ?_
  refine J_objInit dX6_init_1 lo_6_3 (by decide) (Nat.le_of_ble_eq_true rfl) ?_
  refine J_aload_n 0 0 40 dX6_init_4 rfl rfl ?_
  refine J_bipush 8 dX6_init_5 (by decide) ?_
  refine J_newI 8 dX6_init_7 (by decide) (by decide) (by decide) ac_I rfl (hm _ (by omega)) (by omega) ?_
  refine J_putRF 40 6 1 41 dX6_init_9 fl_6_9 rfl rfl (by omega) rfl rfl rfl (fun _ => rfl) (fun _ => rfl) ?_
  rw [rL_cons]
  exact J_vret dX6_init_12 rfl rfl
set_option maxHeartbeats 4000000 in
set_option maxRecDepth 100000 in
theorem ct_X7_init (S : Nat) (hS : isSt S) (m : Mm) (hm : ∀ b, S < b → m b = fun _ => 0) (L : List (Nat × Nat × Nat)) (hL : ∀ q ∈ L, q.1 < S) : Ct yX7_init cX7_init 1 none 2 41 [.ref S] (S + 1) (S + 14) m (rL L) (some (none, m, rL ((S, 10, (S + 13)) :: (S, 9, (S + 6)) :: ((S + 6), 6, (S + 12)) :: ((S + 6), 5, (S + 11)) :: ((S + 6), 4, (S + 10)) :: ((S + 6), 3, (S + 9)) :: ((S + 6), 2, (S + 8)) :: ((S + 6), 1, (S + 7)) :: (S, 8, (S + 5)) :: (S, 7, (S + 4)) :: (S, 6, (S + 3)) :: (S, 5, (S + 2)) :: (S, 4, (S + 1)) :: L))) := by
  refine Ct.of (by decide) (by omega) (Nat.le_of_ble_eq_true rfl) ?_
  show J RX7 cX7_init 1 none "<init>" 2 41 (S + 1) (S + 14) 0 [(0, .ref S)] [] (S + 1) m (rL L) (some (none, m, rL ((S, 10, (S + 13)) :: (S, 9, (S + 6)) :: ((S + 6), 6, (S + 12)) :: ((S + 6), 5, (S + 11)) :: ((S + 6), 4, (S + 10)) :: ((S + 6), 3, (S + 9)) :: ((S + 6), 2, (S + 8)) :: ((S + 6), 1, (S + 7)) :: (S, 8, (S + 5)) :: (S, 7, (S + 4)) :: (S, 6, (S + 3)) :: (S, 5, (S + 2)) :: (S, 4, (S + 1)) :: L))) some
  refine J_aload_n 0 0 S dX7_init_0 rfl rfl ?_
  refine J_objInit dX7_init_1 lo_7_3 (by decide) (Nat.le_of_ble_eq_true rfl) ?_
  refine J_aload_n 0 0 S dX7_init_4 rfl rfl ?_
  refine J_bipush 8 dX7_init_5 (by decide) ?_
  refine J_newI 8 dX7_init_7 (by decide) (by decide) (by decide) ac_I (lay_St_1 hS) (hm _ (by omega)) (by omega) ?_
  refine J_putRF S 7 4 (S + 1) dX7_init_9 fl_7_9 (layc_St_0 hS) rfl (by omega) rfl rfl rfl (fun _ => rfl) (fun _ => rfl) ?_
  rw [rL_cons]
  refine J_aload_n 0 0 S dX7_init_12 rfl rfl ?_
  refine J_bipush 8 dX7_init_13 (by decide) ?_
  refine J_newI 8 dX7_init_15 (by decide) (by decide) (by decide) ac_I (lay_St_2 hS) (hm _ (by omega)) (by omega) ?_
  refine J_putRF S 7 5 (S + 2) dX7_init_17 fl_7_15 (layc_St_0 hS) rfl (by omega) rfl rfl rfl (fun _ => rfl) (fun _ => rfl) ?_
  rw [rL_cons]
  refine J_aload_n 0 0 S dX7_init_20 rfl rfl ?_
  refine J_bipush 10 dX7_init_21 (by decide) ?_
  refine J_newI 10 dX7_init_23 (by decide) (by decide) (by decide) ac_I (lay_St_3 hS) (hm _ (by omega)) (by omega) ?_
  refine J_putRF S 7 6 (S + 3) dX7_init_25 fl_7_18 (layc_St_0 hS) rfl (by omega) rfl rfl rfl (fun _ => rfl) (fun _ => rfl) ?_
  rw [rL_cons]
  refine J_aload_n 0 0 S dX7_init_28 rfl rfl ?_
  refine J_iconst 4 dX7_init_29 (by decide) ?_
  refine J_newI 4 dX7_init_30 (by decide) (by decide) (by decide) ac_I (lay_St_4 hS) (hm _ (by omega)) (by omega) ?_
  refine J_putRF S 7 7 (S + 4) dX7_init_32 fl_7_21 (layc_St_0 hS) rfl (by omega) rfl rfl rfl (fun _ => rfl) (fun _ => rfl) ?_
  rw [rL_cons]
  refine J_aload_n 0 0 S dX7_init_35 rfl rfl ?_
  refine J_iconst 3 dX7_init_36 (by decide) ?_
  refine J_newI 3 dX7_init_37 (by decide) (by decide) (by decide) ac_I (lay_St_5 hS) (hm _ (by omega)) (by omega) ?_
  refine J_putRF S 7 8 (S + 5) dX7_init_39 fl_7_24 (layc_St_0 hS) rfl (by omega) rfl rfl rfl (fun _ => rfl) (fun _ => rfl) ?_
  rw [rL_cons]
  refine J_aload_n 0 0 S dX7_init_42 rfl rfl ?_
  refine J_new 0 dX7_init_43 (by decide) cl_7_27 ins_0 ini_0 (layc_St_6 hS) (fun j => by rw [hm _ (by omega)]) (rL_none (by simp only [List.mem_cons, forall_eq_or_imp]; exact ⟨by omega, by omega, by omega, by omega, by omega, fun q hq => Nat.lt_trans (hL q hq) (by omega)⟩)) (by omega) ?_
  refine J_dup dX7_init_46 rfl ?_
  refine J_callINd (S + 6) "WhichHold" dX7_init_47 mv_X0_init rfl rfl mvI_X0_init ln_7_29 (ct_X0_init (S + 6) (or_St hS) m (fun b hb => hm b (by omega)) ((S, 8, (S + 5)) :: (S, 7, (S + 4)) :: (S, 6, (S + 3)) :: (S, 5, (S + 2)) :: (S, 4, (S + 1)) :: L)) ⟨by decide, by decide⟩ (Nat.le_of_ble_eq_true rfl) ⟨by omega, by omega⟩ ?_
  refine J_putRF S 7 9 (S + 6) dX7_init_50 fl_7_30 (layc_St_0 hS) rfl (by omega) rfl rfl rfl (fun _ => rfl) (fun _ => rfl) ?_
  rw [rL_cons]
  refine J_aload_n 0 0 S dX7_init_53 rfl rfl ?_
  refine J_new 3 dX7_init_54 (by decide) cl_7_34 ins_3 ini_3 (layc_St_13 hS) (fun j => by rw [hm _ (by omega)]) (rL_none (by simp only [List.mem_cons, forall_eq_or_imp]; exact ⟨by omega, by omega, by omega, by omega, by omega, by omega, by omega, by omega, by omega, by omega, by omega, by omega, fun q hq => Nat.lt_trans (hL q hq) (by omega)⟩)) (by omega) ?_
  refine J_dup dX7_init_57 rfl ?_
  refine J_callINd (S + 13) "WhichHold" dX7_init_58 mv_X3_init rfl rfl mvI_X3_init ln_7_36 (ct_X3_init (S + 13) (sc_St hS) m (fun b hb => hm b (by omega)) ((S, 9, (S + 6)) :: ((S + 6), 6, (S + 12)) :: ((S + 6), 5, (S + 11)) :: ((S + 6), 4, (S + 10)) :: ((S + 6), 3, (S + 9)) :: ((S + 6), 2, (S + 8)) :: ((S + 6), 1, (S + 7)) :: (S, 8, (S + 5)) :: (S, 7, (S + 4)) :: (S, 6, (S + 3)) :: (S, 5, (S + 2)) :: (S, 4, (S + 1)) :: L)) ⟨by decide, by decide⟩ (Nat.le_of_ble_eq_true rfl) ⟨by omega, by omega⟩ ?_
  refine J_putRF S 7 10 (S + 13) dX7_init_61 fl_7_37 (layc_St_0 hS) rfl (by omega) rfl rfl rfl (fun _ => rfl) (fun _ => rfl) ?_
  rw [rL_cons]
  exact J_vret dX7_init_64 rfl rfl

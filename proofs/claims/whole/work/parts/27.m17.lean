theorem fl_9_53 : FL RX9 53 9 31 := ⟨by decide, by decide, tb 1053 (by decide +kernel) rfl⟩
theorem fl_9_56 : FL RX9 56 9 32 := ⟨by decide, by decide, tb 1054 (by decide +kernel) rfl⟩
theorem kc_9_292 : Cond.constant RX9 292 100000 ∈ TBg := tb 1404 (by decide +kernel) rfl
theorem lk_9_220 : Cond.methodLink RX9 220 yX9_isHold ∈ TBg := tb 1235 (by decide +kernel) rfl
theorem lk_9_258 : Cond.methodLink RX9 258 yX9_aMinute ∈ TBg := tb 1282 (by decide +kernel) rfl
theorem lk_9_270 : Cond.methodLink RX9 270 yX9_tells ∈ TBg := tb 1339 (by decide +kernel) rfl
theorem lk_9_283 : Cond.methodLink RX9 283 yX9_frees ∈ TBg := tb 1375 (by decide +kernel) rfl
theorem lk_9_328 : Cond.methodLink RX9 328 yX9_floatsWith ∈ TBg := tb 1429 (by decide +kernel) rfl
theorem mv_X9_aMinute : MV yX9_aMinute cX9_aMinute 2 none 1 := ⟨tb 1285 (by decide +kernel) rfl, tb 13 (by decide +kernel) rfl, by decide +kernel⟩
theorem mv_X9_aMinutev : Cond.instanceMethod yX9_aMinute ∈ TBg ∧ Cond.selects yX9_aMinute.cls yX9_aMinute yX9_aMinute ∈ TBg := ⟨tb 1284 (by decide +kernel) rfl, tbP (k := 42) 68 (by decide +kernel) rfl⟩
theorem mv_X9_floatsWith : MV yX9_floatsWith cX9_floatsWith 3 (some .boolean) 1 := ⟨tb 1432 (by decide +kernel) rfl, tb 13 (by decide +kernel) rfl, by decide +kernel⟩
theorem mv_X9_floatsWithv : Cond.instanceMethod yX9_floatsWith ∈ TBg ∧ Cond.selects yX9_floatsWith.cls yX9_floatsWith yX9_floatsWith ∈ TBg := ⟨tb 1431 (by decide +kernel) rfl, tbP (k := 42) 90 (by decide +kernel) rfl⟩
theorem mv_X9_frees : MV yX9_frees cX9_frees 2 none 0 := ⟨tb 1378 (by decide +kernel) rfl, tb 13 (by decide +kernel) rfl, by decide +kernel⟩
theorem mv_X9_freesv : Cond.instanceMethod yX9_frees ∈ TBg ∧ Cond.selects yX9_frees.cls yX9_frees yX9_frees ∈ TBg := ⟨tb 1377 (by decide +kernel) rfl, tbP (k := 42) 82 (by decide +kernel) rfl⟩
theorem mv_X9_isHold : MV yX9_isHold cX9_isHold 2 (some .boolean) 1 := ⟨tb 1238 (by decide +kernel) rfl, tb 13 (by decide +kernel) rfl, by decide +kernel⟩
theorem mv_X9_isHoldv : Cond.instanceMethod yX9_isHold ∈ TBg ∧ Cond.selects yX9_isHold.cls yX9_isHold yX9_isHold ∈ TBg := ⟨tb 1237 (by decide +kernel) rfl, tbP (k := 42) 63 (by decide +kernel) rfl⟩
theorem mv_X9_tells : MV yX9_tells cX9_tells 7 none 5 := ⟨tb 1342 (by decide +kernel) rfl, tb 13 (by decide +kernel) rfl, by decide +kernel⟩
theorem mv_X9_tellsv : Cond.instanceMethod yX9_tells ∈ TBg ∧ Cond.selects yX9_tells.cls yX9_tells yX9_tells ∈ TBg := ⟨tb 1341 (by decide +kernel) rfl, tbP (k := 42) 78 (by decide +kernel) rfl⟩
theorem dX9_beside_0 : decode cX9_beside 0 = .ok (.aload_n 0, 1) := by decide +kernel
theorem dX9_beside_1 : decode cX9_beside 1 = .ok (.iload_n 1, 1) := by decide +kernel
theorem dX9_beside_2 : decode cX9_beside 2 = .ok (.invokevirtual 220, 3) := by decide +kernel
theorem dX9_beside_5 : decode cX9_beside 5 = .ok (.ifCond .eq 13, 3) := by decide +kernel
theorem dX9_beside_8 : decode cX9_beside 8 = .ok (.iload_n 2, 1) := by decide +kernel
theorem dX9_beside_9 : decode cX9_beside 9 = .ok (.i2l, 1) := by decide +kernel
theorem dX9_beside_10 : decode cX9_beside 10 = .ok (.lconst 0, 1) := by decide +kernel
theorem dX9_beside_11 : decode cX9_beside 11 = .ok (.lconst 1, 1) := by decide +kernel
theorem dX9_beside_12 : decode cX9_beside 12 = .ok (.invokestatic 114, 3) := by decide +kernel
theorem dX9_beside_15 : decode cX9_beside 15 = .ok (.ifCond .ne 5, 3) := by decide +kernel
theorem dX9_beside_18 : decode cX9_beside 18 = .ok (.iconst (-1), 1) := by decide +kernel
theorem dX9_beside_19 : decode cX9_beside 19 = .ok (.ireturn, 1) := by decide +kernel
theorem dX9_beside_20 : decode cX9_beside 20 = .ok (.iconst 0, 1) := by decide +kernel
theorem dX9_beside_21 : decode cX9_beside 21 = .ok (.istore_n 3, 1) := by decide +kernel
theorem dX9_beside_22 : decode cX9_beside 22 = .ok (.iconst 1, 1) := by decide +kernel
theorem dX9_beside_23 : decode cX9_beside 23 = .ok (.istore 4, 2) := by decide +kernel
theorem dX9_beside_25 : decode cX9_beside 25 = .ok (.iconst 0, 1) := by decide +kernel
theorem dX9_beside_26 : decode cX9_beside 26 = .ok (.istore 5, 2) := by decide +kernel
theorem dX9_beside_28 : decode cX9_beside 28 = .ok (.iload 5, 2) := by decide +kernel
theorem dX9_beside_30 : decode cX9_beside 30 = .ok (.aload_n 0, 1) := by decide +kernel
theorem dX9_beside_31 : decode cX9_beside 31 = .ok (.getfield 93, 3) := by decide +kernel
theorem dX9_beside_34 : decode cX9_beside 34 = .ok (.if_icmp .ge 85, 3) := by decide +kernel
theorem dX9_beside_37 : decode cX9_beside 37 = .ok (.iload_n 3, 1) := by decide +kernel
theorem dX9_beside_38 : decode cX9_beside 38 = .ok (.iload 5, 2) := by decide +kernel
theorem dX9_beside_40 : decode cX9_beside 40 = .ok (.iload_n 1, 1) := by decide +kernel
theorem dX9_beside_41 : decode cX9_beside 41 = .ok (.if_icmp .eq 25, 3) := by decide +kernel
theorem dX9_beside_44 : decode cX9_beside 44 = .ok (.aload_n 0, 1) := by decide +kernel
theorem dX9_beside_45 : decode cX9_beside 45 = .ok (.iconst 1, 1) := by decide +kernel
theorem dX9_beside_46 : decode cX9_beside 46 = .ok (.iload 5, 2) := by decide +kernel
theorem dX9_beside_48 : decode cX9_beside 48 = .ok (.ishl, 1) := by decide +kernel
theorem dX9_beside_49 : decode cX9_beside 49 = .ok (.iconst 1, 1) := by decide +kernel
theorem dX9_beside_50 : decode cX9_beside 50 = .ok (.iload_n 1, 1) := by decide +kernel
theorem dX9_beside_51 : decode cX9_beside 51 = .ok (.ishl, 1) := by decide +kernel
theorem dX9_beside_52 : decode cX9_beside 52 = .ok (.ior, 1) := by decide +kernel
theorem dX9_beside_53 : decode cX9_beside 53 = .ok (.invokevirtual 328, 3) := by decide +kernel
theorem dX9_beside_56 : decode cX9_beside 56 = .ok (.ifCond .eq 10, 3) := by decide +kernel
theorem dX9_beside_59 : decode cX9_beside 59 = .ok (.iconst 1, 1) := by decide +kernel
theorem dX9_beside_60 : decode cX9_beside 60 = .ok (.iload 5, 2) := by decide +kernel
theorem dX9_beside_62 : decode cX9_beside 62 = .ok (.ishl, 1) := by decide +kernel
theorem dX9_beside_63 : decode cX9_beside 63 = .ok (.goto 4, 3) := by decide +kernel
theorem dX9_beside_66 : decode cX9_beside 66 = .ok (.iconst 0, 1) := by decide +kernel
theorem dX9_beside_67 : decode cX9_beside 67 = .ok (.ior, 1) := by decide +kernel
theorem dX9_beside_68 : decode cX9_beside 68 = .ok (.istore_n 3, 1) := by decide +kernel
theorem dX9_beside_69 : decode cX9_beside 69 = .ok (.iconst 0, 1) := by decide +kernel
theorem dX9_beside_70 : decode cX9_beside 70 = .ok (.istore 6, 2) := by decide +kernel
theorem dX9_beside_72 : decode cX9_beside 72 = .ok (.iload 6, 2) := by decide +kernel
theorem dX9_beside_74 : decode cX9_beside 74 = .ok (.iload 5, 2) := by decide +kernel
theorem dX9_beside_76 : decode cX9_beside 76 = .ok (.if_icmp .ge 37, 3) := by decide +kernel
theorem dX9_beside_79 : decode cX9_beside 79 = .ok (.iload 4, 2) := by decide +kernel
theorem dX9_beside_81 : decode cX9_beside 81 = .ok (.ifCond .eq 23, 3) := by decide +kernel
theorem dX9_beside_84 : decode cX9_beside 84 = .ok (.aload_n 0, 1) := by decide +kernel
theorem dX9_beside_85 : decode cX9_beside 85 = .ok (.iconst 1, 1) := by decide +kernel
theorem dX9_beside_86 : decode cX9_beside 86 = .ok (.iload 5, 2) := by decide +kernel
theorem dX9_beside_88 : decode cX9_beside 88 = .ok (.ishl, 1) := by decide +kernel
theorem dX9_beside_89 : decode cX9_beside 89 = .ok (.iconst 1, 1) := by decide +kernel
theorem dX9_beside_90 : decode cX9_beside 90 = .ok (.iload 6, 2) := by decide +kernel
theorem dX9_beside_92 : decode cX9_beside 92 = .ok (.ishl, 1) := by decide +kernel
theorem dX9_beside_93 : decode cX9_beside 93 = .ok (.ior, 1) := by decide +kernel
theorem dX9_beside_94 : decode cX9_beside 94 = .ok (.invokevirtual 328, 3) := by decide +kernel
theorem dX9_beside_97 : decode cX9_beside 97 = .ok (.ifCond .eq 7, 3) := by decide +kernel
theorem dX9_beside_100 : decode cX9_beside 100 = .ok (.iconst 1, 1) := by decide +kernel
theorem dX9_beside_101 : decode cX9_beside 101 = .ok (.goto 4, 3) := by decide +kernel
theorem dX9_beside_104 : decode cX9_beside 104 = .ok (.iconst 0, 1) := by decide +kernel
theorem dX9_beside_105 : decode cX9_beside 105 = .ok (.istore 4, 2) := by decide +kernel
theorem dX9_beside_107 : decode cX9_beside 107 = .ok (.iinc 6 1, 3) := by decide +kernel
theorem dX9_beside_110 : decode cX9_beside 110 = .ok (.goto (-38), 3) := by decide +kernel
theorem dX9_beside_113 : decode cX9_beside 113 = .ok (.iinc 5 1, 3) := by decide +kernel
theorem dX9_beside_116 : decode cX9_beside 116 = .ok (.goto (-88), 3) := by decide +kernel
theorem dX9_beside_119 : decode cX9_beside 119 = .ok (.iload_n 2, 1) := by decide +kernel
theorem dX9_beside_120 : decode cX9_beside 120 = .ok (.ifCond .ne 7, 3) := by decide +kernel
theorem dX9_beside_123 : decode cX9_beside 123 = .ok (.iload_n 3, 1) := by decide +kernel
theorem dX9_beside_124 : decode cX9_beside 124 = .ok (.goto 8, 3) := by decide +kernel
theorem dX9_beside_127 : decode cX9_beside 127 = .ok (.iload 4, 2) := by decide +kernel
theorem dX9_beside_129 : decode cX9_beside 129 = .ok (.invokestatic 174, 3) := by decide +kernel
theorem dX9_beside_132 : decode cX9_beside 132 = .ok (.ireturn, 1) := by decide +kernel
theorem dX9_isUnlike_0 : decode cX9_isUnlike 0 = .ok (.iconst 1, 1) := by decide +kernel
theorem dX9_isUnlike_1 : decode cX9_isUnlike 1 = .ok (.istore_n 2, 1) := by decide +kernel
theorem dX9_isUnlike_2 : decode cX9_isUnlike 2 = .ok (.iconst 0, 1) := by decide +kernel
theorem dX9_isUnlike_3 : decode cX9_isUnlike 3 = .ok (.istore_n 3, 1) := by decide +kernel
theorem dX9_isUnlike_4 : decode cX9_isUnlike 4 = .ok (.iload_n 3, 1) := by decide +kernel
theorem dX9_isUnlike_5 : decode cX9_isUnlike 5 = .ok (.iload_n 1, 1) := by decide +kernel
theorem dX9_isUnlike_6 : decode cX9_isUnlike 6 = .ok (.if_icmp .ge 50, 3) := by decide +kernel
theorem dX9_isUnlike_9 : decode cX9_isUnlike 9 = .ok (.iconst 0, 1) := by decide +kernel
theorem dX9_isUnlike_10 : decode cX9_isUnlike 10 = .ok (.istore 4, 2) := by decide +kernel
theorem dX9_isUnlike_12 : decode cX9_isUnlike 12 = .ok (.iload 4, 2) := by decide +kernel
theorem dX9_isUnlike_14 : decode cX9_isUnlike 14 = .ok (.iload_n 3, 1) := by decide +kernel
theorem dX9_isUnlike_15 : decode cX9_isUnlike 15 = .ok (.if_icmp .ge 35, 3) := by decide +kernel
theorem dX9_isUnlike_18 : decode cX9_isUnlike 18 = .ok (.iload_n 2, 1) := by decide +kernel
theorem dX9_isUnlike_19 : decode cX9_isUnlike 19 = .ok (.ifCond .eq 23, 3) := by decide +kernel
theorem dX9_isUnlike_22 : decode cX9_isUnlike 22 = .ok (.aload_n 0, 1) := by decide +kernel
theorem dX9_isUnlike_23 : decode cX9_isUnlike 23 = .ok (.getfield 56, 3) := by decide +kernel
theorem dX9_isUnlike_26 : decode cX9_isUnlike 26 = .ok (.iload_n 3, 1) := by decide +kernel
theorem dX9_isUnlike_27 : decode cX9_isUnlike 27 = .ok (.iaload, 1) := by decide +kernel
theorem dX9_isUnlike_28 : decode cX9_isUnlike 28 = .ok (.aload_n 0, 1) := by decide +kernel
theorem dX9_isUnlike_29 : decode cX9_isUnlike 29 = .ok (.getfield 56, 3) := by decide +kernel
theorem dX9_isUnlike_32 : decode cX9_isUnlike 32 = .ok (.iload 4, 2) := by decide +kernel
theorem dX9_isUnlike_34 : decode cX9_isUnlike 34 = .ok (.iaload, 1) := by decide +kernel
theorem dX9_isUnlike_35 : decode cX9_isUnlike 35 = .ok (.if_icmp .eq 7, 3) := by decide +kernel
theorem dX9_isUnlike_38 : decode cX9_isUnlike 38 = .ok (.iconst 1, 1) := by decide +kernel
theorem dX9_isUnlike_39 : decode cX9_isUnlike 39 = .ok (.goto 4, 3) := by decide +kernel
theorem dX9_isUnlike_42 : decode cX9_isUnlike 42 = .ok (.iconst 0, 1) := by decide +kernel
theorem dX9_isUnlike_43 : decode cX9_isUnlike 43 = .ok (.istore_n 2, 1) := by decide +kernel
theorem dX9_isUnlike_44 : decode cX9_isUnlike 44 = .ok (.iinc 4 1, 3) := by decide +kernel
theorem dX9_isUnlike_47 : decode cX9_isUnlike 47 = .ok (.goto (-35), 3) := by decide +kernel
theorem dX9_isUnlike_50 : decode cX9_isUnlike 50 = .ok (.iinc 3 1, 3) := by decide +kernel
theorem dX9_isUnlike_53 : decode cX9_isUnlike 53 = .ok (.goto (-49), 3) := by decide +kernel
theorem dX9_isUnlike_56 : decode cX9_isUnlike 56 = .ok (.iload_n 2, 1) := by decide +kernel
theorem dX9_isUnlike_57 : decode cX9_isUnlike 57 = .ok (.ireturn, 1) := by decide +kernel
theorem dX9_longer_0 : decode cX9_longer 0 = .ok (.iload_n 0, 1) := by decide +kernel
theorem dX9_longer_1 : decode cX9_longer 1 = .ok (.bipush (-4), 2) := by decide +kernel
theorem dX9_longer_3 : decode cX9_longer 3 = .ok (.if_icmp .ne 9, 3) := by decide +kernel
theorem dX9_longer_6 : decode cX9_longer 6 = .ok (.ldc_w 292, 3) := by decide +kernel
theorem dX9_longer_9 : decode cX9_longer 9 = .ok (.goto 4, 3) := by decide +kernel
theorem dX9_longer_12 : decode cX9_longer 12 = .ok (.iload_n 0, 1) := by decide +kernel
theorem dX9_longer_13 : decode cX9_longer 13 = .ok (.ireturn, 1) := by decide +kernel
theorem dX9_frees_0 : decode cX9_frees 0 = .ok (.aload_n 0, 1) := by decide +kernel
theorem dX9_frees_1 : decode cX9_frees 1 = .ok (.sipush 384, 3) := by decide +kernel
theorem dX9_frees_4 : decode cX9_frees 4 = .ok (.iconst 0, 1) := by decide +kernel
theorem dX9_frees_5 : decode cX9_frees 5 = .ok (.invokevirtual 261, 3) := by decide +kernel
theorem dX9_frees_8 : decode cX9_frees 8 = .ok (.aload_n 0, 1) := by decide +kernel
theorem dX9_frees_9 : decode cX9_frees 9 = .ok (.getfield 7, 3) := by decide +kernel
theorem dX9_frees_12 : decode cX9_frees 12 = .ok (.sipush 460, 3) := by decide +kernel
theorem dX9_frees_15 : decode cX9_frees 15 = .ok (.iconst 0, 1) := by decide +kernel
theorem dX9_frees_16 : decode cX9_frees 16 = .ok (.iastore, 1) := by decide +kernel
theorem dX9_frees_17 : decode cX9_frees 17 = .ok (.aload_n 0, 1) := by decide +kernel
theorem dX9_frees_18 : decode cX9_frees 18 = .ok (.getfield 7, 3) := by decide +kernel
theorem dX9_frees_21 : decode cX9_frees 21 = .ok (.sipush 458, 3) := by decide +kernel
theorem dX9_frees_24 : decode cX9_frees 24 = .ok (.iconst 0, 1) := by decide +kernel
theorem dX9_frees_25 : decode cX9_frees 25 = .ok (.iastore, 1) := by decide +kernel
theorem dX9_frees_26 : decode cX9_frees 26 = .ok (.iconst 0, 1) := by decide +kernel
theorem dX9_frees_27 : decode cX9_frees 27 = .ok (.istore_n 1, 1) := by decide +kernel
theorem dX9_frees_28 : decode cX9_frees 28 = .ok (.iload_n 1, 1) := by decide +kernel
theorem dX9_frees_29 : decode cX9_frees 29 = .ok (.bipush 10, 2) := by decide +kernel
theorem dX9_frees_31 : decode cX9_frees 31 = .ok (.if_icmp .ge 20, 3) := by decide +kernel
theorem dX9_frees_34 : decode cX9_frees 34 = .ok (.aload_n 0, 1) := by decide +kernel
theorem dX9_frees_35 : decode cX9_frees 35 = .ok (.getfield 7, 3) := by decide +kernel
theorem dX9_frees_38 : decode cX9_frees 38 = .ok (.sipush 410, 3) := by decide +kernel
theorem dX9_frees_41 : decode cX9_frees 41 = .ok (.iload_n 1, 1) := by decide +kernel
theorem dX9_frees_42 : decode cX9_frees 42 = .ok (.iadd, 1) := by decide +kernel
theorem dX9_frees_43 : decode cX9_frees 43 = .ok (.iconst 0, 1) := by decide +kernel
theorem dX9_frees_44 : decode cX9_frees 44 = .ok (.iastore, 1) := by decide +kernel
theorem dX9_frees_45 : decode cX9_frees 45 = .ok (.iinc 1 1, 3) := by decide +kernel
theorem dX9_frees_48 : decode cX9_frees 48 = .ok (.goto (-20), 3) := by decide +kernel
theorem dX9_frees_51 : decode cX9_frees 51 = .ok (.iconst 0, 1) := by decide +kernel
theorem dX9_frees_52 : decode cX9_frees 52 = .ok (.istore_n 1, 1) := by decide +kernel
theorem dX9_frees_53 : decode cX9_frees 53 = .ok (.iload_n 1, 1) := by decide +kernel
theorem dX9_frees_54 : decode cX9_frees 54 = .ok (.iconst 4, 1) := by decide +kernel
theorem dX9_frees_55 : decode cX9_frees 55 = .ok (.if_icmp .ge 20, 3) := by decide +kernel
theorem dX9_frees_58 : decode cX9_frees 58 = .ok (.aload_n 0, 1) := by decide +kernel
theorem dX9_frees_59 : decode cX9_frees 59 = .ok (.getfield 7, 3) := by decide +kernel
theorem dX9_frees_62 : decode cX9_frees 62 = .ok (.sipush 424, 3) := by decide +kernel
theorem dX9_frees_65 : decode cX9_frees 65 = .ok (.iload_n 1, 1) := by decide +kernel
theorem dX9_frees_66 : decode cX9_frees 66 = .ok (.iadd, 1) := by decide +kernel
theorem dX9_frees_67 : decode cX9_frees 67 = .ok (.iconst 0, 1) := by decide +kernel
theorem dX9_frees_68 : decode cX9_frees 68 = .ok (.iastore, 1) := by decide +kernel
theorem dX9_frees_69 : decode cX9_frees 69 = .ok (.iinc 1 1, 3) := by decide +kernel
theorem dX9_frees_72 : decode cX9_frees 72 = .ok (.goto (-19), 3) := by decide +kernel
theorem dX9_frees_75 : decode cX9_frees 75 = .ok (.return_, 1) := by decide +kernel
theorem dX9_tells_0 : decode cX9_tells 0 = .ok (.aload_n 0, 1) := by decide +kernel
theorem dX9_tells_1 : decode cX9_tells 1 = .ok (.getfield 7, 3) := by decide +kernel
theorem dX9_tells_4 : decode cX9_tells 4 = .ok (.iload_n 1, 1) := by decide +kernel
theorem dX9_tells_5 : decode cX9_tells 5 = .ok (.bipush 76, 2) := by decide +kernel
theorem dX9_tells_7 : decode cX9_tells 7 = .ok (.iadd, 1) := by decide +kernel
theorem dX9_tells_8 : decode cX9_tells 8 = .ok (.iaload, 1) := by decide +kernel
theorem dX9_tells_9 : decode cX9_tells 9 = .ok (.istore 6, 2) := by decide +kernel
theorem dX9_tells_11 : decode cX9_tells 11 = .ok (.aload_n 0, 1) := by decide +kernel
theorem dX9_tells_12 : decode cX9_tells 12 = .ok (.getfield 7, 3) := by decide +kernel
theorem dX9_tells_15 : decode cX9_tells 15 = .ok (.iload_n 1, 1) := by decide +kernel
theorem dX9_tells_16 : decode cX9_tells 16 = .ok (.bipush 77, 2) := by decide +kernel
theorem dX9_tells_18 : decode cX9_tells 18 = .ok (.iadd, 1) := by decide +kernel
theorem dX9_tells_19 : decode cX9_tells 19 = .ok (.iload 6, 2) := by decide +kernel
theorem dX9_tells_21 : decode cX9_tells 21 = .ok (.iadd, 1) := by decide +kernel
theorem dX9_tells_22 : decode cX9_tells 22 = .ok (.iload_n 2, 1) := by decide +kernel
theorem dX9_tells_23 : decode cX9_tells 23 = .ok (.iastore, 1) := by decide +kernel
theorem dX9_tells_24 : decode cX9_tells 24 = .ok (.aload_n 0, 1) := by decide +kernel
theorem dX9_tells_25 : decode cX9_tells 25 = .ok (.getfield 7, 3) := by decide +kernel
theorem dX9_tells_28 : decode cX9_tells 28 = .ok (.iload_n 1, 1) := by decide +kernel
theorem dX9_tells_29 : decode cX9_tells 29 = .ok (.bipush 89, 2) := by decide +kernel
theorem dX9_tells_31 : decode cX9_tells 31 = .ok (.iadd, 1) := by decide +kernel
theorem dX9_tells_32 : decode cX9_tells 32 = .ok (.iload 6, 2) := by decide +kernel
theorem dX9_tells_34 : decode cX9_tells 34 = .ok (.iadd, 1) := by decide +kernel
theorem dX9_tells_35 : decode cX9_tells 35 = .ok (.iload_n 3, 1) := by decide +kernel
theorem dX9_tells_36 : decode cX9_tells 36 = .ok (.iastore, 1) := by decide +kernel
theorem dX9_tells_37 : decode cX9_tells 37 = .ok (.aload_n 0, 1) := by decide +kernel
theorem dX9_tells_38 : decode cX9_tells 38 = .ok (.getfield 7, 3) := by decide +kernel
theorem dX9_tells_41 : decode cX9_tells 41 = .ok (.iload_n 1, 1) := by decide +kernel
theorem dX9_tells_42 : decode cX9_tells 42 = .ok (.bipush 101, 2) := by decide +kernel
theorem dX9_tells_44 : decode cX9_tells 44 = .ok (.iadd, 1) := by decide +kernel
theorem dX9_tells_45 : decode cX9_tells 45 = .ok (.iload 6, 2) := by decide +kernel
theorem dX9_tells_47 : decode cX9_tells 47 = .ok (.iadd, 1) := by decide +kernel
theorem dX9_tells_48 : decode cX9_tells 48 = .ok (.iload 4, 2) := by decide +kernel
theorem dX9_tells_50 : decode cX9_tells 50 = .ok (.iastore, 1) := by decide +kernel
theorem dX9_tells_51 : decode cX9_tells 51 = .ok (.aload_n 0, 1) := by decide +kernel
theorem dX9_tells_52 : decode cX9_tells 52 = .ok (.getfield 7, 3) := by decide +kernel
theorem dX9_tells_55 : decode cX9_tells 55 = .ok (.iload_n 1, 1) := by decide +kernel
theorem dX9_tells_56 : decode cX9_tells 56 = .ok (.bipush 113, 2) := by decide +kernel
theorem dX9_tells_58 : decode cX9_tells 58 = .ok (.iadd, 1) := by decide +kernel
theorem dX9_tells_59 : decode cX9_tells 59 = .ok (.iload 6, 2) := by decide +kernel
theorem dX9_tells_61 : decode cX9_tells 61 = .ok (.iadd, 1) := by decide +kernel
theorem dX9_tells_62 : decode cX9_tells 62 = .ok (.iload 5, 2) := by decide +kernel
theorem dX9_tells_64 : decode cX9_tells 64 = .ok (.iastore, 1) := by decide +kernel
theorem dX9_tells_65 : decode cX9_tells 65 = .ok (.aload_n 0, 1) := by decide +kernel
theorem dX9_tells_66 : decode cX9_tells 66 = .ok (.getfield 7, 3) := by decide +kernel
theorem dX9_tells_69 : decode cX9_tells 69 = .ok (.iload_n 1, 1) := by decide +kernel
theorem dX9_tells_70 : decode cX9_tells 70 = .ok (.bipush 47, 2) := by decide +kernel
theorem dX9_tells_72 : decode cX9_tells 72 = .ok (.iadd, 1) := by decide +kernel
theorem dX9_tells_73 : decode cX9_tells 73 = .ok (.iload 6, 2) := by decide +kernel
theorem dX9_tells_75 : decode cX9_tells 75 = .ok (.iadd, 1) := by decide +kernel
theorem dX9_tells_76 : decode cX9_tells 76 = .ok (.iconst 0, 1) := by decide +kernel
theorem dX9_tells_77 : decode cX9_tells 77 = .ok (.iastore, 1) := by decide +kernel
theorem dX9_tells_78 : decode cX9_tells 78 = .ok (.aload_n 0, 1) := by decide +kernel
theorem dX9_tells_79 : decode cX9_tells 79 = .ok (.getfield 7, 3) := by decide +kernel
theorem dX9_tells_82 : decode cX9_tells 82 = .ok (.iload_n 1, 1) := by decide +kernel
theorem dX9_tells_83 : decode cX9_tells 83 = .ok (.bipush 59, 2) := by decide +kernel
theorem dX9_tells_85 : decode cX9_tells 85 = .ok (.iadd, 1) := by decide +kernel
theorem dX9_tells_86 : decode cX9_tells 86 = .ok (.iload 6, 2) := by decide +kernel
theorem dX9_tells_88 : decode cX9_tells 88 = .ok (.iadd, 1) := by decide +kernel
theorem dX9_tells_89 : decode cX9_tells 89 = .ok (.bipush (-4), 2) := by decide +kernel
theorem dX9_tells_91 : decode cX9_tells 91 = .ok (.iastore, 1) := by decide +kernel
theorem dX9_tells_92 : decode cX9_tells 92 = .ok (.aload_n 0, 1) := by decide +kernel
theorem dX9_tells_93 : decode cX9_tells 93 = .ok (.getfield 7, 3) := by decide +kernel
theorem dX9_tells_96 : decode cX9_tells 96 = .ok (.iload_n 1, 1) := by decide +kernel
theorem dX9_tells_97 : decode cX9_tells 97 = .ok (.bipush 76, 2) := by decide +kernel
theorem dX9_tells_99 : decode cX9_tells 99 = .ok (.iadd, 1) := by decide +kernel
theorem dX9_tells_100 : decode cX9_tells 100 = .ok (.iload 6, 2) := by decide +kernel
theorem dX9_tells_102 : decode cX9_tells 102 = .ok (.iconst 1, 1) := by decide +kernel
theorem dX9_tells_103 : decode cX9_tells 103 = .ok (.iadd, 1) := by decide +kernel
theorem dX9_tells_104 : decode cX9_tells 104 = .ok (.iastore, 1) := by decide +kernel
theorem dX9_tells_105 : decode cX9_tells 105 = .ok (.return_, 1) := by decide +kernel
theorem dX9_tries_0 : decode cX9_tries 0 = .ok (.aload_n 0, 1) := by decide +kernel
theorem dX9_tries_1 : decode cX9_tries 1 = .ok (.invokevirtual 283, 3) := by decide +kernel
theorem dX9_tries_4 : decode cX9_tries 4 = .ok (.iconst 0, 1) := by decide +kernel
theorem dX9_tries_5 : decode cX9_tries 5 = .ok (.istore_n 3, 1) := by decide +kernel
theorem dX9_tries_6 : decode cX9_tries 6 = .ok (.iconst 0, 1) := by decide +kernel
theorem dX9_tries_7 : decode cX9_tries 7 = .ok (.istore 4, 2) := by decide +kernel
theorem dX9_tries_9 : decode cX9_tries 9 = .ok (.iload 4, 2) := by decide +kernel
theorem dX9_tries_11 : decode cX9_tries 11 = .ok (.iload_n 2, 1) := by decide +kernel
theorem dX9_tries_12 : decode cX9_tries 12 = .ok (.if_icmp .ge 177, 3) := by decide +kernel
theorem dX9_tries_15 : decode cX9_tries 15 = .ok (.aload_n 0, 1) := by decide +kernel
theorem dX9_tries_16 : decode cX9_tries 16 = .ok (.getfield 29, 3) := by decide +kernel
theorem dX9_tries_19 : decode cX9_tries 19 = .ok (.iconst 0, 1) := by decide +kernel
theorem dX9_tries_20 : decode cX9_tries 20 = .ok (.iaload, 1) := by decide +kernel
theorem dX9_tries_21 : decode cX9_tries 21 = .ok (.istore 5, 2) := by decide +kernel
theorem dX9_tries_23 : decode cX9_tries 23 = .ok (.iconst 0, 1) := by decide +kernel
theorem dX9_tries_24 : decode cX9_tries 24 = .ok (.istore 6, 2) := by decide +kernel
theorem dX9_tries_26 : decode cX9_tries 26 = .ok (.iload 6, 2) := by decide +kernel
theorem dX9_tries_28 : decode cX9_tries 28 = .ok (.iload_n 3, 1) := by decide +kernel
theorem dX9_tries_29 : decode cX9_tries 29 = .ok (.if_icmp .ge 59, 3) := by decide +kernel
theorem dX9_tries_32 : decode cX9_tries 32 = .ok (.iload 5, 2) := by decide +kernel
theorem dX9_tries_34 : decode cX9_tries 34 = .ok (.aload_n 0, 1) := by decide +kernel
theorem dX9_tries_35 : decode cX9_tries 35 = .ok (.getfield 7, 3) := by decide +kernel
theorem dX9_tries_38 : decode cX9_tries 38 = .ok (.sipush 431, 3) := by decide +kernel
theorem dX9_tries_41 : decode cX9_tries 41 = .ok (.iload 6, 2) := by decide +kernel
theorem dX9_tries_43 : decode cX9_tries 43 = .ok (.iadd, 1) := by decide +kernel
theorem dX9_tries_44 : decode cX9_tries 44 = .ok (.iaload, 1) := by decide +kernel
theorem dX9_tries_45 : decode cX9_tries 45 = .ok (.iconst 1, 1) := by decide +kernel
theorem dX9_tries_46 : decode cX9_tries 46 = .ok (.if_icmp .ne 29, 3) := by decide +kernel
theorem dX9_tries_49 : decode cX9_tries 49 = .ok (.aload_n 0, 1) := by decide +kernel
theorem dX9_tries_50 : decode cX9_tries 50 = .ok (.getfield 7, 3) := by decide +kernel
theorem dX9_tries_53 : decode cX9_tries 53 = .ok (.sipush 443, 3) := by decide +kernel
theorem dX9_tries_56 : decode cX9_tries 56 = .ok (.iload 6, 2) := by decide +kernel
theorem dX9_tries_58 : decode cX9_tries 58 = .ok (.iadd, 1) := by decide +kernel
theorem dX9_tries_59 : decode cX9_tries 59 = .ok (.iaload, 1) := by decide +kernel
theorem dX9_tries_60 : decode cX9_tries 60 = .ok (.aload_n 0, 1) := by decide +kernel
theorem dX9_tries_61 : decode cX9_tries 61 = .ok (.getfield 7, 3) := by decide +kernel
theorem dX9_tries_64 : decode cX9_tries 64 = .ok (.sipush 455, 3) := by decide +kernel
theorem dX9_tries_67 : decode cX9_tries 67 = .ok (.iaload, 1) := by decide +kernel
theorem dX9_tries_68 : decode cX9_tries 68 = .ok (.if_icmp .le 7, 3) := by decide +kernel
theorem dX9_tries_71 : decode cX9_tries 71 = .ok (.iconst 1, 1) := by decide +kernel
theorem dX9_tries_72 : decode cX9_tries 72 = .ok (.goto 4, 3) := by decide +kernel
theorem dX9_tries_75 : decode cX9_tries 75 = .ok (.iconst 0, 1) := by decide +kernel
theorem dX9_tries_76 : decode cX9_tries 76 = .ok (.invokestatic 174, 3) := by decide +kernel
theorem dX9_tries_79 : decode cX9_tries 79 = .ok (.isub, 1) := by decide +kernel
theorem dX9_tries_80 : decode cX9_tries 80 = .ok (.istore 5, 2) := by decide +kernel
theorem dX9_tries_82 : decode cX9_tries 82 = .ok (.iinc 6 1, 3) := by decide +kernel
theorem dX9_tries_85 : decode cX9_tries 85 = .ok (.goto (-59), 3) := by decide +kernel
theorem dX9_tries_88 : decode cX9_tries 88 = .ok (.iload_n 3, 1) := by decide +kernel
theorem dX9_tries_89 : decode cX9_tries 89 = .ok (.iload_n 1, 1) := by decide +kernel
theorem dX9_tries_90 : decode cX9_tries 90 = .ok (.if_icmp .ge 86, 3) := by decide +kernel
theorem dX9_tries_93 : decode cX9_tries 93 = .ok (.iload 5, 2) := by decide +kernel
theorem dX9_tries_95 : decode cX9_tries 95 = .ok (.ifCond .le 81, 3) := by decide +kernel
theorem dX9_tries_98 : decode cX9_tries 98 = .ok (.aload_n 0, 1) := by decide +kernel
theorem dX9_tries_99 : decode cX9_tries 99 = .ok (.getfield 7, 3) := by decide +kernel
theorem dX9_tries_102 : decode cX9_tries 102 = .ok (.sipush 456, 3) := by decide +kernel
theorem dX9_tries_105 : decode cX9_tries 105 = .ok (.iaload, 1) := by decide +kernel
theorem dX9_tries_106 : decode cX9_tries 106 = .ok (.ifCond .ne 70, 3) := by decide +kernel
theorem dX9_tries_109 : decode cX9_tries 109 = .ok (.aload_n 0, 1) := by decide +kernel
theorem dX9_tries_110 : decode cX9_tries 110 = .ok (.getfield 53, 3) := by decide +kernel
theorem dX9_tries_113 : decode cX9_tries 113 = .ok (.aload_n 0, 1) := by decide +kernel
theorem dX9_tries_114 : decode cX9_tries 114 = .ok (.getfield 56, 3) := by decide +kernel
theorem dX9_tries_117 : decode cX9_tries 117 = .ok (.iload_n 3, 1) := by decide +kernel
theorem dX9_tries_118 : decode cX9_tries 118 = .ok (.iaload, 1) := by decide +kernel
theorem dX9_tries_119 : decode cX9_tries 119 = .ok (.iaload, 1) := by decide +kernel
theorem dX9_tries_120 : decode cX9_tries 120 = .ok (.istore 6, 2) := by decide +kernel
theorem dX9_tries_122 : decode cX9_tries 122 = .ok (.aload_n 0, 1) := by decide +kernel
theorem dX9_tries_123 : decode cX9_tries 123 = .ok (.sipush 384, 3) := by decide +kernel
theorem dX9_tries_126 : decode cX9_tries 126 = .ok (.aload_n 0, 1) := by decide +kernel
theorem dX9_tries_127 : decode cX9_tries 127 = .ok (.getfield 7, 3) := by decide +kernel
theorem dX9_tries_130 : decode cX9_tries 130 = .ok (.sipush 455, 3) := by decide +kernel
theorem dX9_tries_133 : decode cX9_tries 133 = .ok (.iaload, 1) := by decide +kernel
theorem dX9_tries_134 : decode cX9_tries 134 = .ok (.iload 6, 2) := by decide +kernel
theorem dX9_tries_136 : decode cX9_tries 136 = .ok (.bipush 20, 2) := by decide +kernel
theorem dX9_tries_138 : decode cX9_tries 138 = .ok (.if_icmp .ge 7, 3) := by decide +kernel
theorem dX9_tries_141 : decode cX9_tries 141 = .ok (.iconst 0, 1) := by decide +kernel
theorem dX9_tries_142 : decode cX9_tries 142 = .ok (.goto 4, 3) := by decide +kernel
theorem dX9_tries_145 : decode cX9_tries 145 = .ok (.iconst 2, 1) := by decide +kernel
theorem dX9_tries_146 : decode cX9_tries 146 = .ok (.iload 6, 2) := by decide +kernel
theorem dX9_tries_148 : decode cX9_tries 148 = .ok (.bipush 20, 2) := by decide +kernel
theorem dX9_tries_150 : decode cX9_tries 150 = .ok (.if_icmp .ge 8, 3) := by decide +kernel
theorem dX9_tries_153 : decode cX9_tries 153 = .ok (.iload 6, 2) := by decide +kernel
theorem dX9_tries_155 : decode cX9_tries 155 = .ok (.goto 8, 3) := by decide +kernel
theorem dX9_tries_158 : decode cX9_tries 158 = .ok (.iload 6, 2) := by decide +kernel
theorem dX9_tries_160 : decode cX9_tries 160 = .ok (.bipush 20, 2) := by decide +kernel
theorem dX9_tries_162 : decode cX9_tries 162 = .ok (.isub, 1) := by decide +kernel
theorem dX9_tries_163 : decode cX9_tries 163 = .ok (.iconst 0, 1) := by decide +kernel
theorem dX9_tries_164 : decode cX9_tries 164 = .ok (.invokevirtual 270, 3) := by decide +kernel
theorem dX9_tries_167 : decode cX9_tries 167 = .ok (.iinc 3 1, 3) := by decide +kernel
theorem dX9_tries_170 : decode cX9_tries 170 = .ok (.iinc 5 (-1), 3) := by decide +kernel
theorem dX9_tries_173 : decode cX9_tries 173 = .ok (.goto (-85), 3) := by decide +kernel
theorem dX9_tries_176 : decode cX9_tries 176 = .ok (.aload_n 0, 1) := by decide +kernel
theorem dX9_tries_177 : decode cX9_tries 177 = .ok (.sipush 384, 3) := by decide +kernel
theorem dX9_tries_180 : decode cX9_tries 180 = .ok (.invokevirtual 258, 3) := by decide +kernel
theorem dX9_tries_183 : decode cX9_tries 183 = .ok (.iinc 4 1, 3) := by decide +kernel
theorem dX9_tries_186 : decode cX9_tries 186 = .ok (.goto (-177), 3) := by decide +kernel
theorem dX9_tries_189 : decode cX9_tries 189 = .ok (.return_, 1) := by decide +kernel
theorem dX9_untilSunk_0 : decode cX9_untilSunk 0 = .ok (.aload_n 0, 1) := by decide +kernel
theorem dX9_untilSunk_1 : decode cX9_untilSunk 1 = .ok (.getfield 7, 3) := by decide +kernel
theorem dX9_untilSunk_4 : decode cX9_untilSunk 4 = .ok (.bipush 72, 2) := by decide +kernel
theorem dX9_untilSunk_6 : decode cX9_untilSunk 6 = .ok (.iaload, 1) := by decide +kernel
theorem dX9_untilSunk_7 : decode cX9_untilSunk 7 = .ok (.ifCond .le 7, 3) := by decide +kernel
theorem dX9_untilSunk_10 : decode cX9_untilSunk 10 = .ok (.iconst 0, 1) := by decide +kernel
theorem dX9_untilSunk_11 : decode cX9_untilSunk 11 = .ok (.goto 35, 3) := by decide +kernel
theorem dX9_untilSunk_14 : decode cX9_untilSunk 14 = .ok (.aload_n 0, 1) := by decide +kernel
theorem dX9_untilSunk_15 : decode cX9_untilSunk 15 = .ok (.getfield 7, 3) := by decide +kernel
theorem dX9_untilSunk_18 : decode cX9_untilSunk 18 = .ok (.sipush 456, 3) := by decide +kernel
theorem dX9_untilSunk_21 : decode cX9_untilSunk 21 = .ok (.iaload, 1) := by decide +kernel
theorem dX9_untilSunk_22 : decode cX9_untilSunk 22 = .ok (.ifCond .le 22, 3) := by decide +kernel
theorem dX9_untilSunk_25 : decode cX9_untilSunk 25 = .ok (.aload_n 0, 1) := by decide +kernel
theorem dX9_untilSunk_26 : decode cX9_untilSunk 26 = .ok (.getfield 7, 3) := by decide +kernel
theorem dX9_untilSunk_29 : decode cX9_untilSunk 29 = .ok (.sipush 457, 3) := by decide +kernel
theorem dX9_untilSunk_32 : decode cX9_untilSunk 32 = .ok (.iaload, 1) := by decide +kernel
theorem dX9_untilSunk_33 : decode cX9_untilSunk 33 = .ok (.aload_n 0, 1) := by decide +kernel
theorem dX9_untilSunk_34 : decode cX9_untilSunk 34 = .ok (.getfield 7, 3) := by decide +kernel
theorem dX9_untilSunk_37 : decode cX9_untilSunk 37 = .ok (.bipush 71, 2) := by decide +kernel
theorem dX9_untilSunk_39 : decode cX9_untilSunk 39 = .ok (.iaload, 1) := by decide +kernel
theorem dX9_untilSunk_40 : decode cX9_untilSunk 40 = .ok (.isub, 1) := by decide +kernel
theorem dX9_untilSunk_41 : decode cX9_untilSunk 41 = .ok (.goto 5, 3) := by decide +kernel
theorem dX9_untilSunk_44 : decode cX9_untilSunk 44 = .ok (.bipush (-4), 2) := by decide +kernel
theorem dX9_untilSunk_46 : decode cX9_untilSunk 46 = .ok (.ireturn, 1) := by decide +kernel
def b_X9_beside_72 (F : Nat) (t5 : Int32 × Int32 × Int32 × Mm) (t11 : Int32 × Int32 × Mm) : Option ((Int32 × Int32 × Mm) ⊕ (Int32 × Mm)) :=
  if t5.2.2.1 ≤ t11.2.1 then (some (Sum.inr ((t11.1, t11.2.2)))) else ((if t11.1 = 0 then (some (0, t11.2.2)) else (bind2 (f_X9_floatsWith F t11.2.2 (((1 : Int32) <<< (t5.2.2.1 &&& 31)) ||| ((1 : Int32) <<< (t11.2.1 &&& 31)))) fun x14 m15 => if x14 = 0 then (some (0, m15)) else (some (1, m15))) : Option (Int32 × Mm)).bind fun y13 => some (Sum.inl (y13.1, t11.2.1 + 1, y13.2)))
def b_X9_beside_28 (F : Nat) (a1 : Int32) (t5 : Int32 × Int32 × Int32 × Mm) : Option ((Int32 × Int32 × Int32 × Mm) ⊕ (Int32 × Int32 × Mm)) :=
  if (t5.2.2.2 113 2) ≤ t5.2.2.1 then (some (Sum.inr ((t5.1, t5.2.1, t5.2.2.2)))) else ((if t5.2.2.1 = a1 then (some (0, t5.2.2.2)) else (bind2 (f_X9_floatsWith F t5.2.2.2 (((1 : Int32) <<< (t5.2.2.1 &&& 31)) ||| ((1 : Int32) <<< (a1 &&& 31)))) fun x8 m9 => if x8 = 0 then (some (0, m9)) else (some ((1 : Int32) <<< (t5.2.2.1 &&& 31), m9))) : Option (Int32 × Mm)).bind fun y7 => letv (t5.1 ||| y7.1) fun x10 => (iter F (b_X9_beside_72 F t5) ((t5.2.1, 0, y7.2) : Int32 × Int32 × Mm)).bind (fun e12 : Int32 × Mm => some (Sum.inl (x10, e12.1, t5.2.2.1 + 1, e12.2))))
def f_X9_beside (F : Nat) (m : Mm) (a1 : Int32) (a2 : Int32) : Option (Int32 × Mm) :=
  (f_X9_isHold m a1).bind fun x1 => if x1 = 0 then (some ((-1), m)) else ((f_X9_in a2.toInt64 0 1).bind fun x3 => if x3 = 0 then (some ((-1), m)) else ((iter F (b_X9_beside_28 F a1) ((0, 1, 0, m) : Int32 × Int32 × Int32 × Mm)).bind (fun e6 : Int32 × Int32 × Mm => if a2 = 0 then (some (e6.1, e6.2.2)) else ((f_X9_flag e6.2.1).bind fun x16 => some (x16, e6.2.2)))))
set_option maxHeartbeats 4000000 in
set_option maxRecDepth 100000 in
theorem ct_X9_beside (F : Nat) {n : Nat} (hn : 135 ≤ n) (P D : Nat) (T : Option Nat) (m : Mm) (a1 : Int32) (a2 : Int32) : Ct yX9_beside cX9_beside 7 (some .int) 4 86 [.ref 113, .int a1, .int a2] n n m (RF P D T) (rI (RF P D T) (f_X9_beside F m a1 a2)) := by
  refine Ct.ofI (own := RX9) (nm := "beside") [(0, .ref 113), (1, .int a1), (2, .int a2)] (by decide) (Nat.le_of_ble_eq_true rfl) rfl rfl rfl ?_
  unfold f_X9_beside
  refine J_aload_n 0 0 113 dX9_beside_0 rfl rfl ?_
  refine J_iload_n 1 1 a1 dX9_beside_1 rfl rfl ?_
  refine J_callVP 113 9 1 [.int a1] dX9_beside_2 mv_X9_isHold mv_X9_isHoldv lk_9_220 (ct_X9_isHold F hn P D T m a1) rfl rfl (by decide) rfl (Nat.lt_of_lt_of_le (Nat.le_of_ble_eq_true rfl) hn) ⟨by decide, by decide⟩ (Nat.le_of_ble_eq_true rfl) (fun x1 => ?_)
  refine J_if_eq 18 dX9_beside_5 (by decide) ?_ ?_
  · refine J_iconst (-1) dX9_beside_18 (by decide) ?_
    exact J_iretI dX9_beside_19 rfl rfl
  · refine J_iload_n 2 2 a2 dX9_beside_8 rfl rfl ?_
    refine J_i2l dX9_beside_9 ?_
    refine J_lconst 0 dX9_beside_10 (by decide) ?_
    refine J_lconst 1 dX9_beside_11 (by decide) ?_
    refine J_callSP 3 [.long a2.toInt64, .long 0, .long 1] dX9_beside_12 mv_X9_in mv_X9_ins lk_9_114 (ct_X9_in F hn P D T m a2.toInt64 0 1) rfl ⟨by decide, by decide⟩ (Nat.le_of_ble_eq_true rfl) (fun x3 => ?_)
    refine J_if_ne 20 dX9_beside_15 (by decide) ?_ ?_
    · refine J_iconst 0 dX9_beside_20 (by decide) ?_
      refine J_istore_n 3 [(3, .int 0), (0, .ref 113), (1, .int a1), (2, .int a2)] dX9_beside_21 rfl (by decide) rfl ?_
      refine J_iconst 1 dX9_beside_22 (by decide) ?_
      refine J_istore 4 [(4, .int 1), (3, .int 0), (0, .ref 113), (1, .int a1), (2, .int a2)] dX9_beside_23 (by decide) rfl ?_
      refine J_iconst 0 dX9_beside_25 (by decide) ?_
      refine J_istore 5 [(5, .int 0), (4, .int 1), (3, .int 0), (0, .ref 113), (1, .int a1), (2, .int a2)] dX9_beside_26 (by decide) rfl ?_
      refine J_lv [3, 4, 5, 2, 1, 0] rfl ?_
      refine J_loop (pc := 28) (fun t5 : Int32 × Int32 × Int32 × Mm => [(0, .ref 113), (1, .int a1), (2, .int a2), (3, .int t5.1), (4, .int t5.2.1), (5, .int t5.2.2.1)]) (fun t5 => t5.2.2.2) (fun _ => 119) (fun e6 => [(2, .int a2), (3, .int e6.1), (4, .int e6.2.1)]) (fun _ => []) (fun e6 => e6.2.2) ?_ (fun t5 k1 hBt5 hXt5 => ?_) F ((0, 1, 0, m))
      · refine fun e6 => ?_
        refine J_iload_n 2 0 a2 dX9_beside_119 rfl rfl ?_
        refine J_if_ne 127 dX9_beside_120 (by decide) ?_ ?_
        · refine J_iload 4 2 e6.2.1 dX9_beside_127 rfl ?_
          refine J_callSP 1 [.int e6.2.1] dX9_beside_129 mv_X9_flag mv_X9_flags lk_9_174 (ct_X9_flag F hn P D T e6.2.2 e6.2.1) rfl ⟨by decide, by decide⟩ (Nat.le_of_ble_eq_true rfl) (fun x16 => ?_)
          exact J_iretI dX9_beside_132 rfl rfl
        · refine J_iload_n 3 1 e6.1 dX9_beside_123 rfl rfl ?_
          refine J_goto 132 dX9_beside_124 (by decide) ?_
          exact J_iretI dX9_beside_132 rfl rfl
      · unfold b_X9_beside_28
        refine J_iload 5 5 t5.2.2.1 dX9_beside_28 rfl ?_
        refine J_aload_n 0 0 113 dX9_beside_30 rfl rfl ?_
        refine J_getI 113 9 2 dX9_beside_31 fl_9_93 rfl rfl (Nat.lt_of_lt_of_le (Nat.le_of_ble_eq_true rfl) hn) ?_
        refine J_icmp_ge 119 dX9_beside_34 (by decide) ?_ ?_
        · exact J_lv [2, 3, 4] rfl (hXt5 ((t5.1, t5.2.1, t5.2.2.2)))
        · refine J_iload_n 3 3 t5.1 dX9_beside_37 rfl rfl ?_
          refine J_iload 5 5 t5.2.2.1 dX9_beside_38 rfl ?_
          refine J_iload_n 1 1 a1 dX9_beside_40 rfl rfl ?_
          refine J_seqJ 67 (fun y7 : Int32 × Mm => [(0, .ref 113), (1, .int a1), (2, .int a2), (4, .int t5.2.1), (5, .int t5.2.2.1)]) (fun y7 => [.int y7.1, .int t5.1]) (fun y7 => y7.2) (fun y7 => ?_) (fun k1 hEy7 => ?_)
          · refine J_ior dX9_beside_67 ?_
            refine J_let (fun x10 => ?_)
            refine J_istore_n 3 [(3, .int x10), (0, .ref 113), (1, .int a1), (2, .int a2), (4, .int t5.2.1), (5, .int t5.2.2.1)] dX9_beside_68 rfl (by decide) rfl ?_
            refine J_iconst 0 dX9_beside_69 (by decide) ?_
            refine J_istore 6 [(6, .int 0), (3, .int x10), (0, .ref 113), (1, .int a1), (2, .int a2), (4, .int t5.2.1), (5, .int t5.2.2.1)] dX9_beside_70 (by decide) rfl ?_
            refine J_lv [2, 3, 4, 1, 5, 6, 0] rfl ?_
            refine J_loop (pc := 72) (fun t11 : Int32 × Int32 × Mm => [(0, .ref 113), (1, .int a1), (2, .int a2), (3, .int x10), (4, .int t11.1), (5, .int t5.2.2.1), (6, .int t11.2.1)]) (fun t11 => t11.2.2) (fun _ => 113) (fun e12 => [(0, .ref 113), (1, .int a1), (2, .int a2), (3, .int x10), (4, .int e12.1), (5, .int t5.2.2.1)]) (fun _ => []) (fun e12 => e12.2) ?_ (fun t11 k1 hBt11 hXt11 => ?_) F ((t5.2.1, 0, y7.2))
            · refine fun e12 => ?_
              refine J_iinc 5 5 [(5, .int (t5.2.2.1 + 1)), (0, .ref 113), (1, .int a1), (2, .int a2), (3, .int x10), (4, .int e12.1)] t5.2.2.1 (t5.2.2.1 + 1) dX9_beside_113 rfl rfl (by decide) rfl ?_
              refine J_goto 28 dX9_beside_116 (by decide) ?_
              exact J_lv [1, 2, 3, 4, 5, 0] rfl (hBt5 (x10, e12.1, t5.2.2.1 + 1, e12.2))
            · unfold b_X9_beside_72
              refine J_iload 6 6 t11.2.1 dX9_beside_72 rfl ?_
              refine J_iload 5 5 t5.2.2.1 dX9_beside_74 rfl ?_
              refine J_icmp_ge 113 dX9_beside_76 (by decide) ?_ ?_
              · exact J_lv [0, 1, 2, 3, 4, 5] rfl (hXt11 ((t11.1, t11.2.2)))
              · refine J_iload 4 4 t11.1 dX9_beside_79 rfl ?_
                refine J_seqJ 105 (fun y13 : Int32 × Mm => [(0, .ref 113), (1, .int a1), (2, .int a2), (3, .int x10), (5, .int t5.2.2.1), (6, .int t11.2.1)]) (fun y13 => [.int y13.1]) (fun y13 => y13.2) (fun y13 => ?_) (fun k1 hEy13 => ?_)
                · refine J_istore 4 [(4, .int y13.1), (0, .ref 113), (1, .int a1), (2, .int a2), (3, .int x10), (5, .int t5.2.2.1), (6, .int t11.2.1)] dX9_beside_105 (by decide) rfl ?_
                  refine J_iinc 6 6 [(6, .int (t11.2.1 + 1)), (4, .int y13.1), (0, .ref 113), (1, .int a1), (2, .int a2), (3, .int x10), (5, .int t5.2.2.1)] t11.2.1 (t11.2.1 + 1) dX9_beside_107 rfl rfl (by decide) rfl ?_
                  refine J_goto 72 dX9_beside_110 (by decide) ?_
                  exact J_lv [2, 3, 4, 5, 1, 6, 0] rfl (hBt11 (y13.1, t11.2.1 + 1, y13.2))
                · refine J_if_eq 104 dX9_beside_81 (by decide) ?_ ?_
                  · refine J_iconst 0 dX9_beside_104 (by decide) ?_
                    exact J_lv [0, 1, 2, 3, 5, 6] rfl (hEy13 (0, t11.2.2))
                  · refine J_aload_n 0 0 113 dX9_beside_84 rfl rfl ?_
                    refine J_iconst 1 dX9_beside_85 (by decide) ?_
                    refine J_iload 5 5 t5.2.2.1 dX9_beside_86 rfl ?_
                    refine J_ishl dX9_beside_88 ?_
                    refine J_iconst 1 dX9_beside_89 (by decide) ?_
                    refine J_iload 6 6 t11.2.1 dX9_beside_90 rfl ?_
                    refine J_ishl dX9_beside_92 ?_
                    refine J_ior dX9_beside_93 ?_
                    refine J_callVI 113 9 1 [.int (((1 : Int32) <<< (t5.2.2.1 &&& 31)) ||| ((1 : Int32) <<< (t11.2.1 &&& 31)))] dX9_beside_94 mv_X9_floatsWith mv_X9_floatsWithv lk_9_328 (ct_X9_floatsWith F hn P D T t11.2.2 (((1 : Int32) <<< (t5.2.2.1 &&& 31)) ||| ((1 : Int32) <<< (t11.2.1 &&& 31)))) rfl rfl (by decide) rfl (Nat.lt_of_lt_of_le (Nat.le_of_ble_eq_true rfl) hn) ⟨by decide, by decide⟩ (Nat.le_of_ble_eq_true rfl) (fun x14 m15 => ?_)
                    refine J_if_eq 104 dX9_beside_97 (by decide) ?_ ?_
                    · refine J_iconst 0 dX9_beside_104 (by decide) ?_
                      exact J_lv [0, 1, 2, 3, 5, 6] rfl (hEy13 (0, m15))
                    · refine J_iconst 1 dX9_beside_100 (by decide) ?_
                      refine J_goto 105 dX9_beside_101 (by decide) ?_
                      exact J_lv [0, 1, 2, 3, 5, 6] rfl (hEy13 (1, m15))
          · refine J_icmp_eq 66 dX9_beside_41 (by decide) ?_ ?_
            · refine J_iconst 0 dX9_beside_66 (by decide) ?_
              exact J_lv [0, 1, 2, 4, 5] rfl (hEy7 (0, t5.2.2.2))
            · refine J_aload_n 0 0 113 dX9_beside_44 rfl rfl ?_
              refine J_iconst 1 dX9_beside_45 (by decide) ?_
              refine J_iload 5 5 t5.2.2.1 dX9_beside_46 rfl ?_
              refine J_ishl dX9_beside_48 ?_
              refine J_iconst 1 dX9_beside_49 (by decide) ?_
              refine J_iload_n 1 1 a1 dX9_beside_50 rfl rfl ?_
              refine J_ishl dX9_beside_51 ?_
              refine J_ior dX9_beside_52 ?_
              refine J_callVI 113 9 1 [.int (((1 : Int32) <<< (t5.2.2.1 &&& 31)) ||| ((1 : Int32) <<< (a1 &&& 31)))] dX9_beside_53 mv_X9_floatsWith mv_X9_floatsWithv lk_9_328 (ct_X9_floatsWith F hn P D T t5.2.2.2 (((1 : Int32) <<< (t5.2.2.1 &&& 31)) ||| ((1 : Int32) <<< (a1 &&& 31)))) rfl rfl (by decide) rfl (Nat.lt_of_lt_of_le (Nat.le_of_ble_eq_true rfl) hn) ⟨by decide, by decide⟩ (Nat.le_of_ble_eq_true rfl) (fun x8 m9 => ?_)
              refine J_if_eq 66 dX9_beside_56 (by decide) ?_ ?_
              · refine J_iconst 0 dX9_beside_66 (by decide) ?_
                exact J_lv [0, 1, 2, 4, 5] rfl (hEy7 (0, m9))
              · refine J_iconst 1 dX9_beside_59 (by decide) ?_
                refine J_iload 5 5 t5.2.2.1 dX9_beside_60 rfl ?_
                refine J_ishl dX9_beside_62 ?_
                refine J_goto 67 dX9_beside_63 (by decide) ?_
                exact J_lv [0, 1, 2, 4, 5] rfl (hEy7 ((1 : Int32) <<< (t5.2.2.1 &&& 31), m9))
    · refine J_iconst (-1) dX9_beside_18 (by decide) ?_
      exact J_iretI dX9_beside_19 rfl rfl
def b_X9_isUnlike_12 (m : Mm) (t1 : Int32 × Int32) (t3 : Int32 × Int32) : Option ((Int32 × Int32) ⊕ (Int32)) :=
  if t1.2 ≤ t3.2 then (some (Sum.inr t3.1)) else ((if t3.1 = 0 then (some 0) else ((ald m 129 3 t1.2).bind fun x6 => (ald m 129 3 t3.2).bind fun x7 => if x6 = x7 then (some 0) else (some 1)) : Option (Int32)).bind fun y5 => some (Sum.inl (y5, t3.2 + 1)))
def b_X9_isUnlike_4 (F : Nat) (m : Mm) (a1 : Int32) (t1 : Int32 × Int32) : Option ((Int32 × Int32) ⊕ (Int32)) :=
  if a1 ≤ t1.2 then (some (Sum.inr t1.1)) else ((iter F (b_X9_isUnlike_12 m t1) ((t1.1, 0) : Int32 × Int32)).bind (fun e4 : Int32 => some (Sum.inl (e4, t1.2 + 1))))
def f_X9_isUnlike (F : Nat) (m : Mm) (a1 : Int32) : Option (Int32) :=
  (iter F (b_X9_isUnlike_4 F m a1) ((1, 0) : Int32 × Int32)).bind (fun e2 : Int32 => bG e2)
set_option maxHeartbeats 4000000 in
set_option maxRecDepth 100000 in
theorem ct_X9_isUnlike (F : Nat) {n : Nat} (hn : 135 ≤ n) (P D : Nat) (T : Option Nat) (m : Mm) (a1 : Int32) : Ct yX9_isUnlike cX9_isUnlike 5 (some .boolean) 0 0 [.ref 113, .int a1] n n m (RF P D T) (rP m (RF P D T) (f_X9_isUnlike F m a1)) := by
  refine Ct.ofP (own := RX9) (nm := "isUnlike") [(0, .ref 113), (1, .int a1)] (by decide) (Nat.le_of_ble_eq_true rfl) rfl rfl rfl ?_
  unfold f_X9_isUnlike
  refine J_iconst 1 dX9_isUnlike_0 (by decide) ?_
  refine J_istore_n 2 [(2, .int 1), (0, .ref 113), (1, .int a1)] dX9_isUnlike_1 rfl (by decide) rfl ?_
  refine J_iconst 0 dX9_isUnlike_2 (by decide) ?_
  refine J_istore_n 3 [(3, .int 0), (2, .int 1), (0, .ref 113), (1, .int a1)] dX9_isUnlike_3 rfl (by decide) rfl ?_
  refine J_lv [2, 3, 1, 0] rfl ?_
  refine J_loop (pc := 4) (fun t1 : Int32 × Int32 => [(0, .ref 113), (1, .int a1), (2, .int t1.1), (3, .int t1.2)]) (fun t1 => m) (fun _ => 56) (fun e2 => [(2, .int e2)]) (fun _ => []) (fun e2 => m) ?_ (fun t1 k1 hBt1 hXt1 => ?_) F ((1, 0))
  · refine fun e2 => ?_
    refine J_iload_n 2 0 e2 dX9_isUnlike_56 rfl rfl ?_
    exact J_bretP dX9_isUnlike_57 rfl rfl
  · unfold b_X9_isUnlike_4
    refine J_iload_n 3 3 t1.2 dX9_isUnlike_4 rfl rfl ?_
    refine J_iload_n 1 1 a1 dX9_isUnlike_5 rfl rfl ?_
    refine J_icmp_ge 56 dX9_isUnlike_6 (by decide) ?_ ?_
    · exact J_lv [2] rfl (hXt1 t1.1)
    · refine J_iconst 0 dX9_isUnlike_9 (by decide) ?_
      refine J_istore 4 [(4, .int 0), (0, .ref 113), (1, .int a1), (2, .int t1.1), (3, .int t1.2)] dX9_isUnlike_10 (by decide) rfl ?_
      refine J_lv [1, 2, 3, 4, 0] rfl ?_
      refine J_loop (pc := 12) (fun t3 : Int32 × Int32 => [(0, .ref 113), (1, .int a1), (2, .int t3.1), (3, .int t1.2), (4, .int t3.2)]) (fun t3 => m) (fun _ => 50) (fun e4 => [(0, .ref 113), (1, .int a1), (2, .int e4), (3, .int t1.2)]) (fun _ => []) (fun e4 => m) ?_ (fun t3 k1 hBt3 hXt3 => ?_) F ((t1.1, 0))
      · refine fun e4 => ?_
        refine J_iinc 3 3 [(3, .int (t1.2 + 1)), (0, .ref 113), (1, .int a1), (2, .int e4)] t1.2 (t1.2 + 1) dX9_isUnlike_50 rfl rfl (by decide) rfl ?_
        refine J_goto 4 dX9_isUnlike_53 (by decide) ?_
        exact J_lv [1, 2, 3, 0] rfl (hBt1 (e4, t1.2 + 1))
      · unfold b_X9_isUnlike_12
        refine J_iload 4 4 t3.2 dX9_isUnlike_12 rfl ?_
        refine J_iload_n 3 3 t1.2 dX9_isUnlike_14 rfl rfl ?_
        refine J_icmp_ge 50 dX9_isUnlike_15 (by decide) ?_ ?_
        · exact J_lv [0, 1, 2, 3] rfl (hXt3 t3.1)
        · refine J_iload_n 2 2 t3.1 dX9_isUnlike_18 rfl rfl ?_
          refine J_seqJ 43 (fun y5 : Int32 => [(0, .ref 113), (1, .int a1), (3, .int t1.2), (4, .int t3.2)]) (fun y5 => [.int y5]) (fun y5 => m) (fun y5 => ?_) (fun k1 hEy5 => ?_)
          · refine J_istore_n 2 [(2, .int y5), (0, .ref 113), (1, .int a1), (3, .int t1.2), (4, .int t3.2)] dX9_isUnlike_43 rfl (by decide) rfl ?_
            refine J_iinc 4 4 [(4, .int (t3.2 + 1)), (2, .int y5), (0, .ref 113), (1, .int a1), (3, .int t1.2)] t3.2 (t3.2 + 1) dX9_isUnlike_44 rfl rfl (by decide) rfl ?_
            refine J_goto 12 dX9_isUnlike_47 (by decide) ?_
            exact J_lv [2, 3, 1, 4, 0] rfl (hBt3 (y5, t3.2 + 1))
          · refine J_if_eq 42 dX9_isUnlike_19 (by decide) ?_ ?_
            · refine J_iconst 0 dX9_isUnlike_42 (by decide) ?_
              exact J_lv [0, 1, 3, 4] rfl (hEy5 0)
            · refine J_aload_n 0 0 113 dX9_isUnlike_22 rfl rfl ?_
              refine J_getR 113 9 32 129 dX9_isUnlike_23 fl_9_56 rfl rfl (Nat.lt_of_lt_of_le (Nat.le_of_ble_eq_true rfl) hn) rfl ?_
              refine J_iload_n 3 3 t1.2 dX9_isUnlike_26 rfl rfl ?_
              refine J_iald 129 3 dX9_isUnlike_27 rfl (Nat.lt_of_lt_of_le (Nat.le_of_ble_eq_true rfl) hn) (fun x6 => ?_)
              refine J_aload_n 0 0 113 dX9_isUnlike_28 rfl rfl ?_
              refine J_getR 113 9 32 129 dX9_isUnlike_29 fl_9_56 rfl rfl (Nat.lt_of_lt_of_le (Nat.le_of_ble_eq_true rfl) hn) rfl ?_
              refine J_iload 4 4 t3.2 dX9_isUnlike_32 rfl ?_
              refine J_iald 129 3 dX9_isUnlike_34 rfl (Nat.lt_of_lt_of_le (Nat.le_of_ble_eq_true rfl) hn) (fun x7 => ?_)
              refine J_icmp_eq 42 dX9_isUnlike_35 (by decide) ?_ ?_
              · refine J_iconst 0 dX9_isUnlike_42 (by decide) ?_
                exact J_lv [0, 1, 3, 4] rfl (hEy5 0)
              · refine J_iconst 1 dX9_isUnlike_38 (by decide) ?_
                refine J_goto 43 dX9_isUnlike_39 (by decide) ?_
                exact J_lv [0, 1, 3, 4] rfl (hEy5 1)
def f_X9_longer (a0 : Int32) : Option (Int32) :=
  if a0 = ((-4) : Int32) then (some 100000) else (some a0)
set_option maxHeartbeats 4000000 in
set_option maxRecDepth 100000 in
theorem ct_X9_longer (F : Nat) {n : Nat} (hn : 135 ≤ n) (P D : Nat) (T : Option Nat) (m : Mm) (a0 : Int32) : Ct yX9_longer cX9_longer 1 (some .int) 0 0 [.int a0] n n m (RF P D T) (rP m (RF P D T) (f_X9_longer a0)) := by
  refine Ct.ofP (own := RX9) (nm := "longer") [(0, .int a0)] (by decide) (Nat.le_of_ble_eq_true rfl) rfl rfl rfl ?_
  unfold f_X9_longer
  refine J_iload_n 0 0 a0 dX9_longer_0 rfl rfl ?_
  refine J_bipush (-4) dX9_longer_1 (by decide) ?_
  refine J_icmp_ne 12 dX9_longer_3 (by decide) ?_ ?_
  · refine J_iload_n 0 0 a0 dX9_longer_12 rfl rfl ?_
    exact J_iretP dX9_longer_13 rfl rfl
  · refine J_ldcw 100000 dX9_longer_6 kc_9_292 ?_
    refine J_goto 13 dX9_longer_9 (by decide) ?_
    exact J_iretP dX9_longer_13 rfl rfl
def b_X9_frees_28  (t5 : Int32 × Mm) : Option ((Int32 × Mm) ⊕ (Mm)) :=
  if (10 : Int32) ≤ t5.1 then (some (Sum.inr t5.2)) else ((ast t5.2 114 512 ((410 : Int32) + t5.1) 0).bind fun m7 => some (Sum.inl (t5.1 + 1, m7)))
def b_X9_frees_53  (t8 : Int32 × Mm) : Option ((Int32 × Mm) ⊕ (Mm)) :=
  if (4 : Int32) ≤ t8.1 then (some (Sum.inr t8.2)) else ((ast t8.2 114 512 ((424 : Int32) + t8.1) 0).bind fun m10 => some (Sum.inl (t8.1 + 1, m10)))
def f_X9_frees (F : Nat) (m : Mm) : Option (Mm) :=
  (f_X9_copies F m 384 0).bind fun m2 => (ast m2 114 512 460 0).bind fun m3 => (ast m3 114 512 458 0).bind fun m4 => (iter F b_X9_frees_28 ((0, m4) : Int32 × Mm)).bind (fun e6 : Mm => (iter F b_X9_frees_53 ((0, e6) : Int32 × Mm)).bind (fun e9 : Mm => some e9))
set_option maxHeartbeats 4000000 in
set_option maxRecDepth 100000 in
theorem ct_X9_frees (F : Nat) {n : Nat} (hn : 135 ≤ n) (P D : Nat) (T : Option Nat) (m : Mm)  : Ct yX9_frees cX9_frees 2 none 1 23 [.ref 113] n n m (RF P D T) (rV (RF P D T) (f_X9_frees F m)) := by
  refine Ct.ofV (own := RX9) (nm := "frees") [(0, .ref 113)] (by decide) (Nat.le_of_ble_eq_true rfl) rfl rfl rfl ?_
  unfold f_X9_frees
  refine J_aload_n 0 0 113 dX9_frees_0 rfl rfl ?_
  refine J_sipush 384 dX9_frees_1 (by decide) ?_
  refine J_iconst 0 dX9_frees_4 (by decide) ?_
  refine J_callVV 113 9 2 [.int 384, .int 0] dX9_frees_5 mv_X9_copies mv_X9_copiesv lk_9_261 (ct_X9_copies F hn P D T m 384 0) rfl rfl (by decide) rfl (Nat.lt_of_lt_of_le (Nat.le_of_ble_eq_true rfl) hn) ⟨by decide, by decide⟩ (Nat.le_of_ble_eq_true rfl) (fun m2 => ?_)
  refine J_aload_n 0 0 113 dX9_frees_8 rfl rfl ?_
  refine J_getR 113 9 0 114 dX9_frees_9 fl_9_7 rfl rfl (Nat.lt_of_lt_of_le (Nat.le_of_ble_eq_true rfl) hn) rfl ?_
  refine J_sipush 460 dX9_frees_12 (by decide) ?_
  refine J_iconst 0 dX9_frees_15 (by decide) ?_
  refine J_iast 114 512 dX9_frees_16 rfl (Nat.lt_of_lt_of_le (Nat.le_of_ble_eq_true rfl) hn) (fun m3 => ?_)
  refine J_aload_n 0 0 113 dX9_frees_17 rfl rfl ?_
  refine J_getR 113 9 0 114 dX9_frees_18 fl_9_7 rfl rfl (Nat.lt_of_lt_of_le (Nat.le_of_ble_eq_true rfl) hn) rfl ?_
  refine J_sipush 458 dX9_frees_21 (by decide) ?_
  refine J_iconst 0 dX9_frees_24 (by decide) ?_
  refine J_iast 114 512 dX9_frees_25 rfl (Nat.lt_of_lt_of_le (Nat.le_of_ble_eq_true rfl) hn) (fun m4 => ?_)
  refine J_iconst 0 dX9_frees_26 (by decide) ?_
  refine J_istore_n 1 [(1, .int 0), (0, .ref 113)] dX9_frees_27 rfl (by decide) rfl ?_
  refine J_lv [1, 0] rfl ?_
  refine J_loop (pc := 28) (fun t5 : Int32 × Mm => [(0, .ref 113), (1, .int t5.1)]) (fun t5 => t5.2) (fun _ => 51) (fun e6 => [(0, .ref 113)]) (fun _ => []) (fun e6 => e6) ?_ (fun t5 k1 hBt5 hXt5 => ?_) F ((0, m4))
  · refine fun e6 => ?_
    refine J_iconst 0 dX9_frees_51 (by decide) ?_
    refine J_istore_n 1 [(1, .int 0), (0, .ref 113)] dX9_frees_52 rfl (by decide) rfl ?_
    refine J_lv [1, 0] rfl ?_
    refine J_loop (pc := 53) (fun t8 : Int32 × Mm => [(0, .ref 113), (1, .int t8.1)]) (fun t8 => t8.2) (fun _ => 75) (fun e9 => []) (fun _ => []) (fun e9 => e9) ?_ (fun t8 k1 hBt8 hXt8 => ?_) F ((0, e6))
    · refine fun e9 => ?_
      exact J_vretV dX9_frees_75 rfl rfl
    · unfold b_X9_frees_53
      refine J_iload_n 1 1 t8.1 dX9_frees_53 rfl rfl ?_
      refine J_iconst 4 dX9_frees_54 (by decide) ?_
      refine J_icmp_ge 75 dX9_frees_55 (by decide) ?_ ?_
      · exact J_lv [] rfl (hXt8 t8.2)
      · refine J_aload_n 0 0 113 dX9_frees_58 rfl rfl ?_
        refine J_getR 113 9 0 114 dX9_frees_59 fl_9_7 rfl rfl (Nat.lt_of_lt_of_le (Nat.le_of_ble_eq_true rfl) hn) rfl ?_
        refine J_sipush 424 dX9_frees_62 (by decide) ?_
        refine J_iload_n 1 1 t8.1 dX9_frees_65 rfl rfl ?_
        refine J_iadd dX9_frees_66 ?_
        refine J_iconst 0 dX9_frees_67 (by decide) ?_
        refine J_iast 114 512 dX9_frees_68 rfl (Nat.lt_of_lt_of_le (Nat.le_of_ble_eq_true rfl) hn) (fun m10 => ?_)
        refine J_iinc 1 1 [(1, .int (t8.1 + 1)), (0, .ref 113)] t8.1 (t8.1 + 1) dX9_frees_69 rfl rfl (by decide) rfl ?_
        refine J_goto 53 dX9_frees_72 (by decide) ?_
        exact J_lv [1, 0] rfl (hBt8 (t8.1 + 1, m10))
  · unfold b_X9_frees_28
    refine J_iload_n 1 1 t5.1 dX9_frees_28 rfl rfl ?_
    refine J_bipush 10 dX9_frees_29 (by decide) ?_
    refine J_icmp_ge 51 dX9_frees_31 (by decide) ?_ ?_
    · exact J_lv [0] rfl (hXt5 t5.2)
    · refine J_aload_n 0 0 113 dX9_frees_34 rfl rfl ?_
      refine J_getR 113 9 0 114 dX9_frees_35 fl_9_7 rfl rfl (Nat.lt_of_lt_of_le (Nat.le_of_ble_eq_true rfl) hn) rfl ?_
      refine J_sipush 410 dX9_frees_38 (by decide) ?_
      refine J_iload_n 1 1 t5.1 dX9_frees_41 rfl rfl ?_
      refine J_iadd dX9_frees_42 ?_
      refine J_iconst 0 dX9_frees_43 (by decide) ?_
      refine J_iast 114 512 dX9_frees_44 rfl (Nat.lt_of_lt_of_le (Nat.le_of_ble_eq_true rfl) hn) (fun m7 => ?_)
      refine J_iinc 1 1 [(1, .int (t5.1 + 1)), (0, .ref 113)] t5.1 (t5.1 + 1) dX9_frees_45 rfl rfl (by decide) rfl ?_
      refine J_goto 28 dX9_frees_48 (by decide) ?_
      exact J_lv [1, 0] rfl (hBt5 (t5.1 + 1, m7))
def f_X9_tells (m : Mm) (a1 : Int32) (a2 : Int32) (a3 : Int32) (a4 : Int32) (a5 : Int32) : Option (Mm) :=
  (ald m 114 512 (a1 + (76 : Int32))).bind fun x1 => (ast m 114 512 ((a1 + (77 : Int32)) + x1) a2).bind fun m2 => (ast m2 114 512 ((a1 + (89 : Int32)) + x1) a3).bind fun m3 => (ast m3 114 512 ((a1 + (101 : Int32)) + x1) a4).bind fun m4 => (ast m4 114 512 ((a1 + (113 : Int32)) + x1) a5).bind fun m5 => (ast m5 114 512 ((a1 + (47 : Int32)) + x1) 0).bind fun m6 => (ast m6 114 512 ((a1 + (59 : Int32)) + x1) (-4)).bind fun m7 => (ast m7 114 512 (a1 + (76 : Int32)) (x1 + (1 : Int32))).bind fun m8 => some m8
set_option maxHeartbeats 4000000 in
set_option maxRecDepth 100000 in
theorem ct_X9_tells (F : Nat) {n : Nat} (hn : 135 ≤ n) (P D : Nat) (T : Option Nat) (m : Mm) (a1 : Int32) (a2 : Int32) (a3 : Int32) (a4 : Int32) (a5 : Int32) : Ct yX9_tells cX9_tells 7 none 0 0 [.ref 113, .int a1, .int a2, .int a3, .int a4, .int a5] n n m (RF P D T) (rV (RF P D T) (f_X9_tells m a1 a2 a3 a4 a5)) := by
  refine Ct.ofV (own := RX9) (nm := "tells") [(0, .ref 113), (1, .int a1), (2, .int a2), (3, .int a3), (4, .int a4), (5, .int a5)] (by decide) (Nat.le_of_ble_eq_true rfl) rfl rfl rfl ?_
  unfold f_X9_tells
  refine J_aload_n 0 0 113 dX9_tells_0 rfl rfl ?_
  refine J_getR 113 9 0 114 dX9_tells_1 fl_9_7 rfl rfl (Nat.lt_of_lt_of_le (Nat.le_of_ble_eq_true rfl) hn) rfl ?_
  refine J_iload_n 1 1 a1 dX9_tells_4 rfl rfl ?_
  refine J_bipush 76 dX9_tells_5 (by decide) ?_
  refine J_iadd dX9_tells_7 ?_
  refine J_iald 114 512 dX9_tells_8 rfl (Nat.lt_of_lt_of_le (Nat.le_of_ble_eq_true rfl) hn) (fun x1 => ?_)
  refine J_istore 6 [(6, .int x1), (0, .ref 113), (1, .int a1), (2, .int a2), (3, .int a3), (4, .int a4), (5, .int a5)] dX9_tells_9 (by decide) rfl ?_
  refine J_aload_n 0 1 113 dX9_tells_11 rfl rfl ?_
  refine J_getR 113 9 0 114 dX9_tells_12 fl_9_7 rfl rfl (Nat.lt_of_lt_of_le (Nat.le_of_ble_eq_true rfl) hn) rfl ?_
  refine J_iload_n 1 2 a1 dX9_tells_15 rfl rfl ?_
  refine J_bipush 77 dX9_tells_16 (by decide) ?_
  refine J_iadd dX9_tells_18 ?_
  refine J_iload 6 0 x1 dX9_tells_19 rfl ?_
  refine J_iadd dX9_tells_21 ?_
  refine J_iload_n 2 3 a2 dX9_tells_22 rfl rfl ?_
  refine J_iast 114 512 dX9_tells_23 rfl (Nat.lt_of_lt_of_le (Nat.le_of_ble_eq_true rfl) hn) (fun m2 => ?_)
  refine J_aload_n 0 1 113 dX9_tells_24 rfl rfl ?_
  refine J_getR 113 9 0 114 dX9_tells_25 fl_9_7 rfl rfl (Nat.lt_of_lt_of_le (Nat.le_of_ble_eq_true rfl) hn) rfl ?_
  refine J_iload_n 1 2 a1 dX9_tells_28 rfl rfl ?_
  refine J_bipush 89 dX9_tells_29 (by decide) ?_
  refine J_iadd dX9_tells_31 ?_
  refine J_iload 6 0 x1 dX9_tells_32 rfl ?_
  refine J_iadd dX9_tells_34 ?_
  refine J_iload_n 3 4 a3 dX9_tells_35 rfl rfl ?_
  refine J_iast 114 512 dX9_tells_36 rfl (Nat.lt_of_lt_of_le (Nat.le_of_ble_eq_true rfl) hn) (fun m3 => ?_)
  refine J_aload_n 0 1 113 dX9_tells_37 rfl rfl ?_
  refine J_getR 113 9 0 114 dX9_tells_38 fl_9_7 rfl rfl (Nat.lt_of_lt_of_le (Nat.le_of_ble_eq_true rfl) hn) rfl ?_
  refine J_iload_n 1 2 a1 dX9_tells_41 rfl rfl ?_
  refine J_bipush 101 dX9_tells_42 (by decide) ?_
  refine J_iadd dX9_tells_44 ?_
  refine J_iload 6 0 x1 dX9_tells_45 rfl ?_
  refine J_iadd dX9_tells_47 ?_
  refine J_iload 4 5 a4 dX9_tells_48 rfl ?_
  refine J_iast 114 512 dX9_tells_50 rfl (Nat.lt_of_lt_of_le (Nat.le_of_ble_eq_true rfl) hn) (fun m4 => ?_)
  refine J_aload_n 0 1 113 dX9_tells_51 rfl rfl ?_
  refine J_getR 113 9 0 114 dX9_tells_52 fl_9_7 rfl rfl (Nat.lt_of_lt_of_le (Nat.le_of_ble_eq_true rfl) hn) rfl ?_
  refine J_iload_n 1 2 a1 dX9_tells_55 rfl rfl ?_
  refine J_bipush 113 dX9_tells_56 (by decide) ?_
  refine J_iadd dX9_tells_58 ?_
  refine J_iload 6 0 x1 dX9_tells_59 rfl ?_
  refine J_iadd dX9_tells_61 ?_
  refine J_iload 5 6 a5 dX9_tells_62 rfl ?_
  refine J_iast 114 512 dX9_tells_64 rfl (Nat.lt_of_lt_of_le (Nat.le_of_ble_eq_true rfl) hn) (fun m5 => ?_)
  refine J_aload_n 0 1 113 dX9_tells_65 rfl rfl ?_
  refine J_getR 113 9 0 114 dX9_tells_66 fl_9_7 rfl rfl (Nat.lt_of_lt_of_le (Nat.le_of_ble_eq_true rfl) hn) rfl ?_
  refine J_iload_n 1 2 a1 dX9_tells_69 rfl rfl ?_
  refine J_bipush 47 dX9_tells_70 (by decide) ?_
  refine J_iadd dX9_tells_72 ?_
  refine J_iload 6 0 x1 dX9_tells_73 rfl ?_
  refine J_iadd dX9_tells_75 ?_
  refine J_iconst 0 dX9_tells_76 (by decide) ?_
  refine J_iast 114 512 dX9_tells_77 rfl (Nat.lt_of_lt_of_le (Nat.le_of_ble_eq_true rfl) hn) (fun m6 => ?_)
  refine J_aload_n 0 1 113 dX9_tells_78 rfl rfl ?_
  refine J_getR 113 9 0 114 dX9_tells_79 fl_9_7 rfl rfl (Nat.lt_of_lt_of_le (Nat.le_of_ble_eq_true rfl) hn) rfl ?_
  refine J_iload_n 1 2 a1 dX9_tells_82 rfl rfl ?_
  refine J_bipush 59 dX9_tells_83 (by decide) ?_
  refine J_iadd dX9_tells_85 ?_
  refine J_iload 6 0 x1 dX9_tells_86 rfl ?_
  refine J_iadd dX9_tells_88 ?_
  refine J_bipush (-4) dX9_tells_89 (by decide) ?_
  refine J_iast 114 512 dX9_tells_91 rfl (Nat.lt_of_lt_of_le (Nat.le_of_ble_eq_true rfl) hn) (fun m7 => ?_)
  refine J_aload_n 0 1 113 dX9_tells_92 rfl rfl ?_
  refine J_getR 113 9 0 114 dX9_tells_93 fl_9_7 rfl rfl (Nat.lt_of_lt_of_le (Nat.le_of_ble_eq_true rfl) hn) rfl ?_
  refine J_iload_n 1 2 a1 dX9_tells_96 rfl rfl ?_
  refine J_bipush 76 dX9_tells_97 (by decide) ?_
  refine J_iadd dX9_tells_99 ?_
  refine J_iload 6 0 x1 dX9_tells_100 rfl ?_
  refine J_iconst 1 dX9_tells_102 (by decide) ?_
  refine J_iadd dX9_tells_103 ?_
  refine J_iast 114 512 dX9_tells_104 rfl (Nat.lt_of_lt_of_le (Nat.le_of_ble_eq_true rfl) hn) (fun m8 => ?_)
  exact J_vretV dX9_tells_105 rfl rfl
def b_X9_tries_26 (t3 : Int32 × Int32 × Mm) (t6 : Int32 × Int32) : Option ((Int32 × Int32) ⊕ (Int32)) :=
  if t3.1 ≤ t6.2 then (some (Sum.inr t6.1)) else ((ald t3.2.2 114 512 ((431 : Int32) + t6.2)).bind fun x8 => (if x8 = (1 : Int32) then ((ald t3.2.2 114 512 ((443 : Int32) + t6.2)).bind fun x10 => (ald t3.2.2 114 512 455).bind fun x11 => if x10 ≤ x11 then (some 0) else (some 1)) else (some 0) : Option (Int32)).bind fun y9 => (f_X9_flag y9).bind fun x12 => letv (t6.1 - x12) fun x14 => some (Sum.inl (x14, t6.2 + 1)))
def b_X9_tries_88 (a1 : Int32) (t15 : Int32 × Int32 × Mm) : Option ((Int32 × Int32 × Mm) ⊕ (Int32 × Mm)) :=
  if a1 ≤ t15.1 then (some (Sum.inr ((t15.1, t15.2.2)))) else (if t15.2.1 ≤ 0 then (some (Sum.inr ((t15.1, t15.2.2)))) else ((ald t15.2.2 114 512 456).bind fun x17 => if x17 = 0 then ((ald t15.2.2 129 3 t15.1).bind fun x18 => (ald t15.2.2 128 14 x18).bind fun x19 => (ald t15.2.2 114 512 455).bind fun x20 => (if (20 : Int32) ≤ x19 then (some 2) else (some 0) : Option (Int32)).bind fun y21 => (if (20 : Int32) ≤ x19 then (some (x19 - (20 : Int32))) else (some x19) : Option (Int32)).bind fun y22 => (f_X9_tells t15.2.2 384 x20 y21 y22 0).bind fun m24 => some (Sum.inl (t15.1 + 1, t15.2.1 + (-1), m24))) else (some (Sum.inr ((t15.1, t15.2.2))))))
def b_X9_tries_9 (F : Nat) (a1 : Int32) (a2 : Int32) (t3 : Int32 × Int32 × Mm) : Option ((Int32 × Int32 × Mm) ⊕ (Mm)) :=
  if a2 ≤ t3.2.1 then (some (Sum.inr t3.2.2)) else ((ald t3.2.2 120 5 0).bind fun x5 => (iter F (b_X9_tries_26 t3) ((x5, 0) : Int32 × Int32)).bind (fun e7 : Int32 => (iter F (b_X9_tries_88 a1) ((t3.1, e7, t3.2.2) : Int32 × Int32 × Mm)).bind (fun e16 : Int32 × Mm => (f_X9_aMinute F e16.2 384).bind fun m26 => some (Sum.inl (e16.1, t3.2.1 + 1, m26)))))
def f_X9_tries (F : Nat) (m : Mm) (a1 : Int32) (a2 : Int32) : Option (Mm) :=
  (f_X9_frees F m).bind fun m2 => (iter F (b_X9_tries_9 F a1 a2) ((0, 0, m2) : Int32 × Int32 × Mm)).bind (fun e4 : Mm => some e4)
set_option maxHeartbeats 4000000 in
set_option maxRecDepth 100000 in
theorem ct_X9_tries (F : Nat) {n : Nat} (hn : 135 ≤ n) (P D : Nat) (T : Option Nat) (m : Mm) (a1 : Int32) (a2 : Int32) : Ct yX9_tries cX9_tries 7 none 5 106 [.ref 113, .int a1, .int a2] n n m (RF P D T) (rV (RF P D T) (f_X9_tries F m a1 a2)) := by
  refine Ct.ofV (own := RX9) (nm := "tries") [(0, .ref 113), (1, .int a1), (2, .int a2)] (by decide) (Nat.le_of_ble_eq_true rfl) rfl rfl rfl ?_
  unfold f_X9_tries
  refine J_aload_n 0 0 113 dX9_tries_0 rfl rfl ?_
  refine J_callVV 113 9 0 [] dX9_tries_1 mv_X9_frees mv_X9_freesv lk_9_283 (ct_X9_frees F hn P D T m) rfl rfl (by decide) rfl (Nat.lt_of_lt_of_le (Nat.le_of_ble_eq_true rfl) hn) ⟨by decide, by decide⟩ (Nat.le_of_ble_eq_true rfl) (fun m2 => ?_)
  refine J_iconst 0 dX9_tries_4 (by decide) ?_
  refine J_istore_n 3 [(3, .int 0), (0, .ref 113), (1, .int a1), (2, .int a2)] dX9_tries_5 rfl (by decide) rfl ?_
  refine J_iconst 0 dX9_tries_6 (by decide) ?_
  refine J_istore 4 [(4, .int 0), (3, .int 0), (0, .ref 113), (1, .int a1), (2, .int a2)] dX9_tries_7 (by decide) rfl ?_
  refine J_lv [2, 3, 4, 1, 0] rfl ?_
  refine J_loop (pc := 9) (fun t3 : Int32 × Int32 × Mm => [(0, .ref 113), (1, .int a1), (2, .int a2), (3, .int t3.1), (4, .int t3.2.1)]) (fun t3 => t3.2.2) (fun _ => 189) (fun e4 => []) (fun _ => []) (fun e4 => e4) ?_ (fun t3 k1 hBt3 hXt3 => ?_) F ((0, 0, m2))
  · refine fun e4 => ?_
    exact J_vretV dX9_tries_189 rfl rfl
  · unfold b_X9_tries_9
    refine J_iload 4 4 t3.2.1 dX9_tries_9 rfl ?_
    refine J_iload_n 2 2 a2 dX9_tries_11 rfl rfl ?_
    refine J_icmp_ge 189 dX9_tries_12 (by decide) ?_ ?_
    · exact J_lv [] rfl (hXt3 t3.2.2)
    · refine J_aload_n 0 0 113 dX9_tries_15 rfl rfl ?_
      refine J_getR 113 9 10 120 dX9_tries_16 fl_9_29 rfl rfl (Nat.lt_of_lt_of_le (Nat.le_of_ble_eq_true rfl) hn) rfl ?_
      refine J_iconst 0 dX9_tries_19 (by decide) ?_
      refine J_iald 120 5 dX9_tries_20 rfl (Nat.lt_of_lt_of_le (Nat.le_of_ble_eq_true rfl) hn) (fun x5 => ?_)
      refine J_istore 5 [(5, .int x5), (0, .ref 113), (1, .int a1), (2, .int a2), (3, .int t3.1), (4, .int t3.2.1)] dX9_tries_21 (by decide) rfl ?_
      refine J_iconst 0 dX9_tries_23 (by decide) ?_
      refine J_istore 6 [(6, .int 0), (5, .int x5), (0, .ref 113), (1, .int a1), (2, .int a2), (3, .int t3.1), (4, .int t3.2.1)] dX9_tries_24 (by decide) rfl ?_
      refine J_lv [2, 3, 4, 5, 6, 1, 0] rfl ?_
      refine J_loop (pc := 26) (fun t6 : Int32 × Int32 => [(0, .ref 113), (1, .int a1), (2, .int a2), (3, .int t3.1), (4, .int t3.2.1), (5, .int t6.1), (6, .int t6.2)]) (fun t6 => t3.2.2) (fun _ => 88) (fun e7 => [(0, .ref 113), (1, .int a1), (2, .int a2), (3, .int t3.1), (4, .int t3.2.1), (5, .int e7)]) (fun _ => []) (fun e7 => t3.2.2) ?_ (fun t6 k1 hBt6 hXt6 => ?_) F ((x5, 0))
      · refine fun e7 => ?_
        refine J_lv [0, 1, 2, 3, 4, 5] rfl ?_
        refine J_loop (pc := 88) (fun t15 : Int32 × Int32 × Mm => [(0, .ref 113), (1, .int a1), (2, .int a2), (3, .int t15.1), (4, .int t3.2.1), (5, .int t15.2.1)]) (fun t15 => t15.2.2) (fun _ => 176) (fun e16 => [(0, .ref 113), (1, .int a1), (2, .int a2), (3, .int e16.1), (4, .int t3.2.1)]) (fun _ => []) (fun e16 => e16.2) ?_ (fun t15 k1 hBt15 hXt15 => ?_) F ((t3.1, e7, t3.2.2))
        · refine fun e16 => ?_
          refine J_aload_n 0 0 113 dX9_tries_176 rfl rfl ?_
          refine J_sipush 384 dX9_tries_177 (by decide) ?_
          refine J_callVV 113 9 1 [.int 384] dX9_tries_180 mv_X9_aMinute mv_X9_aMinutev lk_9_258 (ct_X9_aMinute F hn P D T e16.2 384) rfl rfl (by decide) rfl (Nat.lt_of_lt_of_le (Nat.le_of_ble_eq_true rfl) hn) ⟨by decide, by decide⟩ (Nat.le_of_ble_eq_true rfl) (fun m26 => ?_)
          refine J_iinc 4 4 [(4, .int (t3.2.1 + 1)), (0, .ref 113), (1, .int a1), (2, .int a2), (3, .int e16.1)] t3.2.1 (t3.2.1 + 1) dX9_tries_183 rfl rfl (by decide) rfl ?_
          refine J_goto 9 dX9_tries_186 (by decide) ?_
          exact J_lv [1, 2, 3, 4, 0] rfl (hBt3 (e16.1, t3.2.1 + 1, m26))
        · unfold b_X9_tries_88
          refine J_iload_n 3 3 t15.1 dX9_tries_88 rfl rfl ?_
          refine J_iload_n 1 1 a1 dX9_tries_89 rfl rfl ?_
          refine J_icmp_ge 176 dX9_tries_90 (by decide) ?_ ?_
          · exact J_lv [0, 1, 2, 3, 4] rfl (hXt15 ((t15.1, t15.2.2)))
          · refine J_iload 5 5 t15.2.1 dX9_tries_93 rfl ?_
            refine J_if_le 176 dX9_tries_95 (by decide) ?_ ?_
            · exact J_lv [0, 1, 2, 3, 4] rfl (hXt15 ((t15.1, t15.2.2)))
            · refine J_aload_n 0 0 113 dX9_tries_98 rfl rfl ?_
              refine J_getR 113 9 0 114 dX9_tries_99 fl_9_7 rfl rfl (Nat.lt_of_lt_of_le (Nat.le_of_ble_eq_true rfl) hn) rfl ?_
              refine J_sipush 456 dX9_tries_102 (by decide) ?_
              refine J_iald 114 512 dX9_tries_105 rfl (Nat.lt_of_lt_of_le (Nat.le_of_ble_eq_true rfl) hn) (fun x17 => ?_)
              refine J_if_ne 176 dX9_tries_106 (by decide) ?_ ?_
              · exact J_lv [0, 1, 2, 3, 4] rfl (hXt15 ((t15.1, t15.2.2)))
              · refine J_aload_n 0 0 113 dX9_tries_109 rfl rfl ?_
                refine J_getR 113 9 31 128 dX9_tries_110 fl_9_53 rfl rfl (Nat.lt_of_lt_of_le (Nat.le_of_ble_eq_true rfl) hn) rfl ?_
                refine J_aload_n 0 0 113 dX9_tries_113 rfl rfl ?_
                refine J_getR 113 9 32 129 dX9_tries_114 fl_9_56 rfl rfl (Nat.lt_of_lt_of_le (Nat.le_of_ble_eq_true rfl) hn) rfl ?_
                refine J_iload_n 3 3 t15.1 dX9_tries_117 rfl rfl ?_
                refine J_iald 129 3 dX9_tries_118 rfl (Nat.lt_of_lt_of_le (Nat.le_of_ble_eq_true rfl) hn) (fun x18 => ?_)
                refine J_iald 128 14 dX9_tries_119 rfl (Nat.lt_of_lt_of_le (Nat.le_of_ble_eq_true rfl) hn) (fun x19 => ?_)
                refine J_istore 6 [(6, .int x19), (0, .ref 113), (1, .int a1), (2, .int a2), (3, .int t15.1), (4, .int t3.2.1), (5, .int t15.2.1)] dX9_tries_120 (by decide) rfl ?_
                refine J_aload_n 0 1 113 dX9_tries_122 rfl rfl ?_
                refine J_sipush 384 dX9_tries_123 (by decide) ?_
                refine J_aload_n 0 1 113 dX9_tries_126 rfl rfl ?_
                refine J_getR 113 9 0 114 dX9_tries_127 fl_9_7 rfl rfl (Nat.lt_of_lt_of_le (Nat.le_of_ble_eq_true rfl) hn) rfl ?_
                refine J_sipush 455 dX9_tries_130 (by decide) ?_
                refine J_iald 114 512 dX9_tries_133 rfl (Nat.lt_of_lt_of_le (Nat.le_of_ble_eq_true rfl) hn) (fun x20 => ?_)
                refine J_iload 6 0 x19 dX9_tries_134 rfl ?_
                refine J_bipush 20 dX9_tries_136 (by decide) ?_
                refine J_seqJ 146 (fun y21 : Int32 => [(0, .ref 113), (1, .int a1), (2, .int a2), (3, .int t15.1), (4, .int t3.2.1), (5, .int t15.2.1), (6, .int x19)]) (fun y21 => [.int y21, .int x20, .int 384, .ref 113]) (fun y21 => t15.2.2) (fun y21 => ?_) (fun k1 hEy21 => ?_)
                · refine J_iload 6 6 x19 dX9_tries_146 rfl ?_
                  refine J_bipush 20 dX9_tries_148 (by decide) ?_
                  refine J_seqJ 163 (fun y22 : Int32 => [(0, .ref 113), (1, .int a1), (2, .int a2), (3, .int t15.1), (4, .int t3.2.1), (5, .int t15.2.1)]) (fun y22 => [.int y22, .int y21, .int x20, .int 384, .ref 113]) (fun y22 => t15.2.2) (fun y22 => ?_) (fun k1 hEy22 => ?_)
                  · refine J_iconst 0 dX9_tries_163 (by decide) ?_
                    refine J_callVV 113 9 5 [.int 384, .int x20, .int y21, .int y22, .int 0] dX9_tries_164 mv_X9_tells mv_X9_tellsv lk_9_270 (ct_X9_tells F hn P D T t15.2.2 384 x20 y21 y22 0) rfl rfl (by decide) rfl (Nat.lt_of_lt_of_le (Nat.le_of_ble_eq_true rfl) hn) ⟨by decide, by decide⟩ (Nat.le_of_ble_eq_true rfl) (fun m24 => ?_)
                    refine J_iinc 3 3 [(3, .int (t15.1 + 1)), (0, .ref 113), (1, .int a1), (2, .int a2), (4, .int t3.2.1), (5, .int t15.2.1)] t15.1 (t15.1 + 1) dX9_tries_167 rfl rfl (by decide) rfl ?_
                    refine J_iinc 5 5 [(5, .int (t15.2.1 + (-1))), (3, .int (t15.1 + 1)), (0, .ref 113), (1, .int a1), (2, .int a2), (4, .int t3.2.1)] t15.2.1 (t15.2.1 + (-1)) dX9_tries_170 rfl rfl (by decide) rfl ?_
                    refine J_goto 88 dX9_tries_173 (by decide) ?_
                    exact J_lv [2, 3, 4, 1, 5, 0] rfl (hBt15 (t15.1 + 1, t15.2.1 + (-1), m24))
                  · refine J_icmp_ge 158 dX9_tries_150 (by decide) ?_ ?_
                    · refine J_iload 6 6 x19 dX9_tries_158 rfl ?_
                      refine J_bipush 20 dX9_tries_160 (by decide) ?_
                      refine J_isub dX9_tries_162 ?_
                      exact J_lv [0, 1, 2, 3, 4, 5] rfl (hEy22 (x19 - (20 : Int32)))
                    · refine J_iload 6 6 x19 dX9_tries_153 rfl ?_
                      refine J_goto 163 dX9_tries_155 (by decide) ?_
                      exact J_lv [0, 1, 2, 3, 4, 5] rfl (hEy22 x19)
                · refine J_icmp_ge 145 dX9_tries_138 (by decide) ?_ ?_
                  · refine J_iconst 2 dX9_tries_145 (by decide) ?_
                    exact J_lv [1, 2, 3, 4, 5, 6, 0] rfl (hEy21 2)
                  · refine J_iconst 0 dX9_tries_141 (by decide) ?_
                    refine J_goto 146 dX9_tries_142 (by decide) ?_
                    exact J_lv [1, 2, 3, 4, 5, 6, 0] rfl (hEy21 0)
      · unfold b_X9_tries_26
        refine J_iload 6 6 t6.2 dX9_tries_26 rfl ?_
        refine J_iload_n 3 3 t3.1 dX9_tries_28 rfl rfl ?_
        refine J_icmp_ge 88 dX9_tries_29 (by decide) ?_ ?_
        · exact J_lv [0, 1, 2, 3, 4, 5] rfl (hXt6 t6.1)
        · refine J_iload 5 5 t6.1 dX9_tries_32 rfl ?_
          refine J_aload_n 0 0 113 dX9_tries_34 rfl rfl ?_
          refine J_getR 113 9 0 114 dX9_tries_35 fl_9_7 rfl rfl (Nat.lt_of_lt_of_le (Nat.le_of_ble_eq_true rfl) hn) rfl ?_
          refine J_sipush 431 dX9_tries_38 (by decide) ?_
          refine J_iload 6 6 t6.2 dX9_tries_41 rfl ?_
          refine J_iadd dX9_tries_43 ?_
          refine J_iald 114 512 dX9_tries_44 rfl (Nat.lt_of_lt_of_le (Nat.le_of_ble_eq_true rfl) hn) (fun x8 => ?_)
          refine J_iconst 1 dX9_tries_45 (by decide) ?_
          refine J_seqJ 76 (fun y9 : Int32 => [(0, .ref 113), (1, .int a1), (2, .int a2), (3, .int t3.1), (4, .int t3.2.1), (6, .int t6.2)]) (fun y9 => [.int y9, .int t6.1]) (fun y9 => t3.2.2) (fun y9 => ?_) (fun k1 hEy9 => ?_)
          · refine J_callSP 1 [.int y9] dX9_tries_76 mv_X9_flag mv_X9_flags lk_9_174 (ct_X9_flag F hn P D T t3.2.2 y9) rfl ⟨by decide, by decide⟩ (Nat.le_of_ble_eq_true rfl) (fun x12 => ?_)
            refine J_isub dX9_tries_79 ?_
            refine J_let (fun x14 => ?_)
            refine J_istore 5 [(5, .int x14), (0, .ref 113), (1, .int a1), (2, .int a2), (3, .int t3.1), (4, .int t3.2.1), (6, .int t6.2)] dX9_tries_80 (by decide) rfl ?_
            refine J_iinc 6 6 [(6, .int (t6.2 + 1)), (5, .int x14), (0, .ref 113), (1, .int a1), (2, .int a2), (3, .int t3.1), (4, .int t3.2.1)] t6.2 (t6.2 + 1) dX9_tries_82 rfl rfl (by decide) rfl ?_
            refine J_goto 26 dX9_tries_85 (by decide) ?_
            exact J_lv [2, 3, 4, 5, 6, 1, 0] rfl (hBt6 (x14, t6.2 + 1))
          · refine J_icmp_ne 75 dX9_tries_46 (by decide) ?_ ?_
            · refine J_iconst 0 dX9_tries_75 (by decide) ?_
              exact J_lv [0, 1, 2, 3, 4, 6] rfl (hEy9 0)
            · refine J_aload_n 0 0 113 dX9_tries_49 rfl rfl ?_
              refine J_getR 113 9 0 114 dX9_tries_50 fl_9_7 rfl rfl (Nat.lt_of_lt_of_le (Nat.le_of_ble_eq_true rfl) hn) rfl ?_
              refine J_sipush 443 dX9_tries_53 (by decide) ?_
              refine J_iload 6 6 t6.2 dX9_tries_56 rfl ?_
              refine J_iadd dX9_tries_58 ?_
              refine J_iald 114 512 dX9_tries_59 rfl (Nat.lt_of_lt_of_le (Nat.le_of_ble_eq_true rfl) hn) (fun x10 => ?_)
              refine J_aload_n 0 0 113 dX9_tries_60 rfl rfl ?_
              refine J_getR 113 9 0 114 dX9_tries_61 fl_9_7 rfl rfl (Nat.lt_of_lt_of_le (Nat.le_of_ble_eq_true rfl) hn) rfl ?_
              refine J_sipush 455 dX9_tries_64 (by decide) ?_
              refine J_iald 114 512 dX9_tries_67 rfl (Nat.lt_of_lt_of_le (Nat.le_of_ble_eq_true rfl) hn) (fun x11 => ?_)
              refine J_icmp_le 75 dX9_tries_68 (by decide) ?_ ?_
              · refine J_iconst 0 dX9_tries_75 (by decide) ?_
                exact J_lv [0, 1, 2, 3, 4, 6] rfl (hEy9 0)
              · refine J_iconst 1 dX9_tries_71 (by decide) ?_
                refine J_goto 76 dX9_tries_72 (by decide) ?_
                exact J_lv [0, 1, 2, 3, 4, 6] rfl (hEy9 1)
def f_X9_untilSunk (m : Mm) : Option (Int32) :=
  (ald m 114 512 72).bind fun x1 => if x1 ≤ 0 then ((ald m 114 512 456).bind fun x2 => if x2 ≤ 0 then (some (-4)) else ((ald m 114 512 457).bind fun x3 => (ald m 114 512 71).bind fun x4 => some (x3 - x4))) else (some 0)
set_option maxHeartbeats 4000000 in
set_option maxRecDepth 100000 in
theorem ct_X9_untilSunk (F : Nat) {n : Nat} (hn : 135 ≤ n) (P D : Nat) (T : Option Nat) (m : Mm)  : Ct yX9_untilSunk cX9_untilSunk 1 (some .int) 0 0 [.ref 113] n n m (RF P D T) (rP m (RF P D T) (f_X9_untilSunk m)) := by
  refine Ct.ofP (own := RX9) (nm := "untilSunk") [(0, .ref 113)] (by decide) (Nat.le_of_ble_eq_true rfl) rfl rfl rfl ?_
  unfold f_X9_untilSunk
  refine J_aload_n 0 0 113 dX9_untilSunk_0 rfl rfl ?_
  refine J_getR 113 9 0 114 dX9_untilSunk_1 fl_9_7 rfl rfl (Nat.lt_of_lt_of_le (Nat.le_of_ble_eq_true rfl) hn) rfl ?_
  refine J_bipush 72 dX9_untilSunk_4 (by decide) ?_
  refine J_iald 114 512 dX9_untilSunk_6 rfl (Nat.lt_of_lt_of_le (Nat.le_of_ble_eq_true rfl) hn) (fun x1 => ?_)
  refine J_if_le 14 dX9_untilSunk_7 (by decide) ?_ ?_
  · refine J_aload_n 0 0 113 dX9_untilSunk_14 rfl rfl ?_
    refine J_getR 113 9 0 114 dX9_untilSunk_15 fl_9_7 rfl rfl (Nat.lt_of_lt_of_le (Nat.le_of_ble_eq_true rfl) hn) rfl ?_
    refine J_sipush 456 dX9_untilSunk_18 (by decide) ?_
    refine J_iald 114 512 dX9_untilSunk_21 rfl (Nat.lt_of_lt_of_le (Nat.le_of_ble_eq_true rfl) hn) (fun x2 => ?_)
    refine J_if_le 44 dX9_untilSunk_22 (by decide) ?_ ?_
    · refine J_bipush (-4) dX9_untilSunk_44 (by decide) ?_
      exact J_iretP dX9_untilSunk_46 rfl rfl
    · refine J_aload_n 0 0 113 dX9_untilSunk_25 rfl rfl ?_
      refine J_getR 113 9 0 114 dX9_untilSunk_26 fl_9_7 rfl rfl (Nat.lt_of_lt_of_le (Nat.le_of_ble_eq_true rfl) hn) rfl ?_
      refine J_sipush 457 dX9_untilSunk_29 (by decide) ?_
      refine J_iald 114 512 dX9_untilSunk_32 rfl (Nat.lt_of_lt_of_le (Nat.le_of_ble_eq_true rfl) hn) (fun x3 => ?_)
      refine J_aload_n 0 0 113 dX9_untilSunk_33 rfl rfl ?_
      refine J_getR 113 9 0 114 dX9_untilSunk_34 fl_9_7 rfl rfl (Nat.lt_of_lt_of_le (Nat.le_of_ble_eq_true rfl) hn) rfl ?_
      refine J_bipush 71 dX9_untilSunk_37 (by decide) ?_
      refine J_iald 114 512 dX9_untilSunk_39 rfl (Nat.lt_of_lt_of_le (Nat.le_of_ble_eq_true rfl) hn) (fun x4 => ?_)
      refine J_isub dX9_untilSunk_40 ?_
      refine J_goto 46 dX9_untilSunk_41 (by decide) ?_
      exact J_iretP dX9_untilSunk_46 rfl rfl
  · refine J_iconst 0 dX9_untilSunk_10 (by decide) ?_
    refine J_goto 46 dX9_untilSunk_11 (by decide) ?_
    exact J_iretP dX9_untilSunk_46 rfl rfl

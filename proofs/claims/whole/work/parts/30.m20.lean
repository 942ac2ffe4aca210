theorem fl_9_274 : FL RX9 274 9 29 := ⟨by decide, by decide, tb 1051 (by decide +kernel) rfl⟩
theorem fl_9_62 : FL RX9 62 9 37 := ⟨by decide, by decide, tb 1059 (by decide +kernel) rfl⟩
theorem kl_9_178 : Cond.constantLong RX9 178 4 ∈ TBg := tb 1193 (by decide +kernel) rfl
theorem kl_9_224 : Cond.constantLong RX9 224 5 ∈ TBg := tb 1239 (by decide +kernel) rfl
theorem kl_9_256 : Cond.constantLong RX9 256 120 ∈ TBg := tb 1281 (by decide +kernel) rfl
theorem lk_9_277 : Cond.methodLink RX9 277 yX9_runs ∈ TBg := tb 1355 (by decide +kernel) rfl
theorem lk_9_286 : Cond.methodLink RX9 286 yX9_freeFor ∈ TBg := tb 1371 (by decide +kernel) rfl
theorem lk_9_318 : Cond.methodLink RX9 318 yX9_canShut ∈ TBg := tb 1409 (by decide +kernel) rfl
theorem lk_9_321 : Cond.methodLink RX9 321 yX9_untilWith ∈ TBg := tb 1413 (by decide +kernel) rfl
theorem mv_X9_canShut : MV yX9_canShut cX9_canShut 2 (some .boolean) 1 := ⟨tb 1412 (by decide +kernel) rfl, tb 13 (by decide +kernel) rfl, by decide +kernel⟩
theorem mv_X9_canShutv : Cond.instanceMethod yX9_canShut ∈ TBg ∧ Cond.selects yX9_canShut.cls yX9_canShut yX9_canShut ∈ TBg := ⟨tb 1411 (by decide +kernel) rfl, tbP (k := 42) 87 (by decide +kernel) rfl⟩
theorem mv_X9_freeFor : MV yX9_freeFor cX9_freeFor 2 (some .int) 1 := ⟨tb 1374 (by decide +kernel) rfl, tb 13 (by decide +kernel) rfl, by decide +kernel⟩
theorem mv_X9_freeForv : Cond.instanceMethod yX9_freeFor ∈ TBg ∧ Cond.selects yX9_freeFor.cls yX9_freeFor yX9_freeFor ∈ TBg := ⟨tb 1373 (by decide +kernel) rfl, tbP (k := 42) 81 (by decide +kernel) rfl⟩
theorem mv_X9_runs : MV yX9_runs cX9_runs 3 none 1 := ⟨tb 1358 (by decide +kernel) rfl, tb 13 (by decide +kernel) rfl, by decide +kernel⟩
theorem mv_X9_runsv : Cond.instanceMethod yX9_runs ∈ TBg ∧ Cond.selects yX9_runs.cls yX9_runs yX9_runs ∈ TBg := ⟨tb 1357 (by decide +kernel) rfl, tbP (k := 42) 79 (by decide +kernel) rfl⟩
theorem mv_X9_untilWith : MV yX9_untilWith cX9_untilWith 4 (some .int) 3 := ⟨tb 1416 (by decide +kernel) rfl, tb 13 (by decide +kernel) rfl, by decide +kernel⟩
theorem mv_X9_untilWithv : Cond.instanceMethod yX9_untilWith ∈ TBg ∧ Cond.selects yX9_untilWith.cls yX9_untilWith yX9_untilWith ∈ TBg := ⟨tb 1415 (by decide +kernel) rfl, tbP (k := 42) 88 (by decide +kernel) rfl⟩
theorem dX9_fits_0 : decode cX9_fits 0 = .ok (.aload_n 0, 1) := by decide +kernel
theorem dX9_fits_1 : decode cX9_fits 1 = .ok (.getfield 17, 3) := by decide +kernel
theorem dX9_fits_4 : decode cX9_fits 4 = .ok (.iconst 4, 1) := by decide +kernel
theorem dX9_fits_5 : decode cX9_fits 5 = .ok (.iload_n 1, 1) := by decide +kernel
theorem dX9_fits_6 : decode cX9_fits 6 = .ok (.imul, 1) := by decide +kernel
theorem dX9_fits_7 : decode cX9_fits 7 = .ok (.iaload, 1) := by decide +kernel
theorem dX9_fits_8 : decode cX9_fits 8 = .ok (.istore_n 3, 1) := by decide +kernel
theorem dX9_fits_9 : decode cX9_fits 9 = .ok (.iconst 1, 1) := by decide +kernel
theorem dX9_fits_10 : decode cX9_fits 10 = .ok (.istore 4, 2) := by decide +kernel
theorem dX9_fits_12 : decode cX9_fits 12 = .ok (.iconst 0, 1) := by decide +kernel
theorem dX9_fits_13 : decode cX9_fits 13 = .ok (.istore 5, 2) := by decide +kernel
theorem dX9_fits_15 : decode cX9_fits 15 = .ok (.iload 5, 2) := by decide +kernel
theorem dX9_fits_17 : decode cX9_fits 17 = .ok (.iconst 1, 1) := by decide +kernel
theorem dX9_fits_18 : decode cX9_fits 18 = .ok (.iadd, 1) := by decide +kernel
theorem dX9_fits_19 : decode cX9_fits 19 = .ok (.aload_n 0, 1) := by decide +kernel
theorem dX9_fits_20 : decode cX9_fits 20 = .ok (.getfield 350, 3) := by decide +kernel
theorem dX9_fits_23 : decode cX9_fits 23 = .ok (.if_icmp .ge 91, 3) := by decide +kernel
theorem dX9_fits_26 : decode cX9_fits 26 = .ok (.iload_n 2, 1) := by decide +kernel
theorem dX9_fits_27 : decode cX9_fits 27 = .ok (.bipush 12, 2) := by decide +kernel
theorem dX9_fits_29 : decode cX9_fits 29 = .ok (.bipush 12, 2) := by decide +kernel
theorem dX9_fits_31 : decode cX9_fits 31 = .ok (.aload_n 0, 1) := by decide +kernel
theorem dX9_fits_32 : decode cX9_fits 32 = .ok (.getfield 62, 3) := by decide +kernel
theorem dX9_fits_35 : decode cX9_fits 35 = .ok (.iload 5, 2) := by decide +kernel
theorem dX9_fits_37 : decode cX9_fits 37 = .ok (.iaload, 1) := by decide +kernel
theorem dX9_fits_38 : decode cX9_fits 38 = .ok (.imul, 1) := by decide +kernel
theorem dX9_fits_39 : decode cX9_fits 39 = .ok (.iload_n 3, 1) := by decide +kernel
theorem dX9_fits_40 : decode cX9_fits 40 = .ok (.idiv, 1) := by decide +kernel
theorem dX9_fits_41 : decode cX9_fits 41 = .ok (.isub, 1) := by decide +kernel
theorem dX9_fits_42 : decode cX9_fits 42 = .ok (.imul, 1) := by decide +kernel
theorem dX9_fits_43 : decode cX9_fits 43 = .ok (.bipush 11, 2) := by decide +kernel
theorem dX9_fits_45 : decode cX9_fits 45 = .ok (.iadd, 1) := by decide +kernel
theorem dX9_fits_46 : decode cX9_fits 46 = .ok (.bipush 12, 2) := by decide +kernel
theorem dX9_fits_48 : decode cX9_fits 48 = .ok (.idiv, 1) := by decide +kernel
theorem dX9_fits_49 : decode cX9_fits 49 = .ok (.istore 6, 2) := by decide +kernel
theorem dX9_fits_51 : decode cX9_fits 51 = .ok (.iload_n 3, 1) := by decide +kernel
theorem dX9_fits_52 : decode cX9_fits 52 = .ok (.aload_n 0, 1) := by decide +kernel
theorem dX9_fits_53 : decode cX9_fits 53 = .ok (.getfield 62, 3) := by decide +kernel
theorem dX9_fits_56 : decode cX9_fits 56 = .ok (.iload 5, 2) := by decide +kernel
theorem dX9_fits_58 : decode cX9_fits 58 = .ok (.iaload, 1) := by decide +kernel
theorem dX9_fits_59 : decode cX9_fits 59 = .ok (.isub, 1) := by decide +kernel
theorem dX9_fits_60 : decode cX9_fits 60 = .ok (.istore 7, 2) := by decide +kernel
theorem dX9_fits_62 : decode cX9_fits 62 = .ok (.iload 4, 2) := by decide +kernel
theorem dX9_fits_64 : decode cX9_fits 64 = .ok (.ifCond .eq 41, 3) := by decide +kernel
theorem dX9_fits_67 : decode cX9_fits 67 = .ok (.aload_n 0, 1) := by decide +kernel
theorem dX9_fits_68 : decode cX9_fits 68 = .ok (.getfield 62, 3) := by decide +kernel
theorem dX9_fits_71 : decode cX9_fits 71 = .ok (.iload 5, 2) := by decide +kernel
theorem dX9_fits_73 : decode cX9_fits 73 = .ok (.iconst 1, 1) := by decide +kernel
theorem dX9_fits_74 : decode cX9_fits 74 = .ok (.iadd, 1) := by decide +kernel
theorem dX9_fits_75 : decode cX9_fits 75 = .ok (.iaload, 1) := by decide +kernel
theorem dX9_fits_76 : decode cX9_fits 76 = .ok (.aload_n 0, 1) := by decide +kernel
theorem dX9_fits_77 : decode cX9_fits 77 = .ok (.getfield 62, 3) := by decide +kernel
theorem dX9_fits_80 : decode cX9_fits 80 = .ok (.iload 5, 2) := by decide +kernel
theorem dX9_fits_82 : decode cX9_fits 82 = .ok (.iaload, 1) := by decide +kernel
theorem dX9_fits_83 : decode cX9_fits 83 = .ok (.iload 6, 2) := by decide +kernel
theorem dX9_fits_85 : decode cX9_fits 85 = .ok (.iload 7, 2) := by decide +kernel
theorem dX9_fits_87 : decode cX9_fits 87 = .ok (.if_icmp .ge 8, 3) := by decide +kernel
theorem dX9_fits_90 : decode cX9_fits 90 = .ok (.iload 6, 2) := by decide +kernel
theorem dX9_fits_92 : decode cX9_fits 92 = .ok (.goto 5, 3) := by decide +kernel
theorem dX9_fits_95 : decode cX9_fits 95 = .ok (.iload 7, 2) := by decide +kernel
theorem dX9_fits_97 : decode cX9_fits 97 = .ok (.iadd, 1) := by decide +kernel
theorem dX9_fits_98 : decode cX9_fits 98 = .ok (.if_icmp .ne 7, 3) := by decide +kernel
theorem dX9_fits_101 : decode cX9_fits 101 = .ok (.iconst 1, 1) := by decide +kernel
theorem dX9_fits_102 : decode cX9_fits 102 = .ok (.goto 4, 3) := by decide +kernel
theorem dX9_fits_105 : decode cX9_fits 105 = .ok (.iconst 0, 1) := by decide +kernel
theorem dX9_fits_106 : decode cX9_fits 106 = .ok (.istore 4, 2) := by decide +kernel
theorem dX9_fits_108 : decode cX9_fits 108 = .ok (.iinc 5 1, 3) := by decide +kernel
theorem dX9_fits_111 : decode cX9_fits 111 = .ok (.goto (-96), 3) := by decide +kernel
theorem dX9_fits_114 : decode cX9_fits 114 = .ok (.iload 4, 2) := by decide +kernel
theorem dX9_fits_116 : decode cX9_fits 116 = .ok (.ireturn, 1) := by decide +kernel
theorem dX9_runs_0 : decode cX9_runs 0 = .ok (.aload_n 0, 1) := by decide +kernel
theorem dX9_runs_1 : decode cX9_runs 1 = .ok (.aload_n 0, 1) := by decide +kernel
theorem dX9_runs_2 : decode cX9_runs 2 = .ok (.sipush 384, 3) := by decide +kernel
theorem dX9_runs_5 : decode cX9_runs 5 = .ok (.invokevirtual 205, 3) := by decide +kernel
theorem dX9_runs_8 : decode cX9_runs 8 = .ok (.putfield 274, 3) := by decide +kernel
theorem dX9_runs_11 : decode cX9_runs 11 = .ok (.iconst 0, 1) := by decide +kernel
theorem dX9_runs_12 : decode cX9_runs 12 = .ok (.istore_n 2, 1) := by decide +kernel
theorem dX9_runs_13 : decode cX9_runs 13 = .ok (.iload_n 2, 1) := by decide +kernel
theorem dX9_runs_14 : decode cX9_runs 14 = .ok (.iload_n 1, 1) := by decide +kernel
theorem dX9_runs_15 : decode cX9_runs 15 = .ok (.if_icmp .ge 48, 3) := by decide +kernel
theorem dX9_runs_18 : decode cX9_runs 18 = .ok (.aload_n 0, 1) := by decide +kernel
theorem dX9_runs_19 : decode cX9_runs 19 = .ok (.sipush 384, 3) := by decide +kernel
theorem dX9_runs_22 : decode cX9_runs 22 = .ok (.invokevirtual 258, 3) := by decide +kernel
theorem dX9_runs_25 : decode cX9_runs 25 = .ok (.aload_n 0, 1) := by decide +kernel
theorem dX9_runs_26 : decode cX9_runs 26 = .ok (.aload_n 0, 1) := by decide +kernel
theorem dX9_runs_27 : decode cX9_runs 27 = .ok (.sipush 384, 3) := by decide +kernel
theorem dX9_runs_30 : decode cX9_runs 30 = .ok (.invokevirtual 205, 3) := by decide +kernel
theorem dX9_runs_33 : decode cX9_runs 33 = .ok (.aload_n 0, 1) := by decide +kernel
theorem dX9_runs_34 : decode cX9_runs 34 = .ok (.getfield 274, 3) := by decide +kernel
theorem dX9_runs_37 : decode cX9_runs 37 = .ok (.if_icmp .le 13, 3) := by decide +kernel
theorem dX9_runs_40 : decode cX9_runs 40 = .ok (.aload_n 0, 1) := by decide +kernel
theorem dX9_runs_41 : decode cX9_runs 41 = .ok (.sipush 384, 3) := by decide +kernel
theorem dX9_runs_44 : decode cX9_runs 44 = .ok (.invokevirtual 205, 3) := by decide +kernel
theorem dX9_runs_47 : decode cX9_runs 47 = .ok (.goto 7, 3) := by decide +kernel
theorem dX9_runs_50 : decode cX9_runs 50 = .ok (.aload_n 0, 1) := by decide +kernel
theorem dX9_runs_51 : decode cX9_runs 51 = .ok (.getfield 274, 3) := by decide +kernel
theorem dX9_runs_54 : decode cX9_runs 54 = .ok (.putfield 274, 3) := by decide +kernel
theorem dX9_runs_57 : decode cX9_runs 57 = .ok (.iinc 2 1, 3) := by decide +kernel
theorem dX9_runs_60 : decode cX9_runs 60 = .ok (.goto (-47), 3) := by decide +kernel
theorem dX9_runs_63 : decode cX9_runs 63 = .ok (.return_, 1) := by decide +kernel
theorem dX9_freeFor_0 : decode cX9_freeFor 0 = .ok (.aload_n 0, 1) := by decide +kernel
theorem dX9_freeFor_1 : decode cX9_freeFor 1 = .ok (.invokevirtual 283, 3) := by decide +kernel
theorem dX9_freeFor_4 : decode cX9_freeFor 4 = .ok (.aload_n 0, 1) := by decide +kernel
theorem dX9_freeFor_5 : decode cX9_freeFor 5 = .ok (.iload_n 1, 1) := by decide +kernel
theorem dX9_freeFor_6 : decode cX9_freeFor 6 = .ok (.invokevirtual 277, 3) := by decide +kernel
theorem dX9_freeFor_9 : decode cX9_freeFor 9 = .ok (.aload_n 0, 1) := by decide +kernel
theorem dX9_freeFor_10 : decode cX9_freeFor 10 = .ok (.invokevirtual 280, 3) := by decide +kernel
theorem dX9_freeFor_13 : decode cX9_freeFor 13 = .ok (.ireturn, 1) := by decide +kernel
theorem dX9_free_0 : decode cX9_free 0 = .ok (.iload_n 1, 1) := by decide +kernel
theorem dX9_free_1 : decode cX9_free 1 = .ok (.i2l, 1) := by decide +kernel
theorem dX9_free_2 : decode cX9_free 2 = .ok (.lconst 1, 1) := by decide +kernel
theorem dX9_free_3 : decode cX9_free 3 = .ok (.ldc2_w 256, 3) := by decide +kernel
theorem dX9_free_6 : decode cX9_free 6 = .ok (.invokestatic 114, 3) := by decide +kernel
theorem dX9_free_9 : decode cX9_free 9 = .ok (.ifCond .eq 11, 3) := by decide +kernel
theorem dX9_free_12 : decode cX9_free 12 = .ok (.aload_n 0, 1) := by decide +kernel
theorem dX9_free_13 : decode cX9_free 13 = .ok (.iload_n 1, 1) := by decide +kernel
theorem dX9_free_14 : decode cX9_free 14 = .ok (.invokevirtual 286, 3) := by decide +kernel
theorem dX9_free_17 : decode cX9_free 17 = .ok (.goto 4, 3) := by decide +kernel
theorem dX9_free_20 : decode cX9_free 20 = .ok (.iconst (-1), 1) := by decide +kernel
theorem dX9_free_21 : decode cX9_free 21 = .ok (.ireturn, 1) := by decide +kernel
theorem dX9_given_0 : decode cX9_given 0 = .ok (.iload_n 1, 1) := by decide +kernel
theorem dX9_given_1 : decode cX9_given 1 = .ok (.i2l, 1) := by decide +kernel
theorem dX9_given_2 : decode cX9_given 2 = .ok (.lconst 0, 1) := by decide +kernel
theorem dX9_given_3 : decode cX9_given 3 = .ok (.aload_n 0, 1) := by decide +kernel
theorem dX9_given_4 : decode cX9_given 4 = .ok (.getfield 7, 3) := by decide +kernel
theorem dX9_given_7 : decode cX9_given 7 = .ok (.bipush 76, 2) := by decide +kernel
theorem dX9_given_9 : decode cX9_given 9 = .ok (.iaload, 1) := by decide +kernel
theorem dX9_given_10 : decode cX9_given 10 = .ok (.iconst 1, 1) := by decide +kernel
theorem dX9_given_11 : decode cX9_given 11 = .ok (.isub, 1) := by decide +kernel
theorem dX9_given_12 : decode cX9_given 12 = .ok (.i2l, 1) := by decide +kernel
theorem dX9_given_13 : decode cX9_given 13 = .ok (.invokestatic 114, 3) := by decide +kernel
theorem dX9_given_16 : decode cX9_given 16 = .ok (.ifCond .ne 5, 3) := by decide +kernel
theorem dX9_given_19 : decode cX9_given 19 = .ok (.iconst (-1), 1) := by decide +kernel
theorem dX9_given_20 : decode cX9_given 20 = .ok (.ireturn, 1) := by decide +kernel
theorem dX9_given_21 : decode cX9_given 21 = .ok (.iload_n 2, 1) := by decide +kernel
theorem dX9_given_22 : decode cX9_given 22 = .ok (.tableswitch 98 0 5 #[38, 48, 58, 68, 78, 88], 38) := by decide +kernel
theorem dX9_given_60 : decode cX9_given 60 = .ok (.aload_n 0, 1) := by decide +kernel
theorem dX9_given_61 : decode cX9_given 61 = .ok (.getfield 7, 3) := by decide +kernel
theorem dX9_given_64 : decode cX9_given 64 = .ok (.bipush 77, 2) := by decide +kernel
theorem dX9_given_66 : decode cX9_given 66 = .ok (.iload_n 1, 1) := by decide +kernel
theorem dX9_given_67 : decode cX9_given 67 = .ok (.iadd, 1) := by decide +kernel
theorem dX9_given_68 : decode cX9_given 68 = .ok (.iaload, 1) := by decide +kernel
theorem dX9_given_69 : decode cX9_given 69 = .ok (.ireturn, 1) := by decide +kernel
theorem dX9_given_70 : decode cX9_given 70 = .ok (.aload_n 0, 1) := by decide +kernel
theorem dX9_given_71 : decode cX9_given 71 = .ok (.getfield 7, 3) := by decide +kernel
theorem dX9_given_74 : decode cX9_given 74 = .ok (.bipush 89, 2) := by decide +kernel
theorem dX9_given_76 : decode cX9_given 76 = .ok (.iload_n 1, 1) := by decide +kernel
theorem dX9_given_77 : decode cX9_given 77 = .ok (.iadd, 1) := by decide +kernel
theorem dX9_given_78 : decode cX9_given 78 = .ok (.iaload, 1) := by decide +kernel
theorem dX9_given_79 : decode cX9_given 79 = .ok (.ireturn, 1) := by decide +kernel
theorem dX9_given_80 : decode cX9_given 80 = .ok (.aload_n 0, 1) := by decide +kernel
theorem dX9_given_81 : decode cX9_given 81 = .ok (.getfield 7, 3) := by decide +kernel
theorem dX9_given_84 : decode cX9_given 84 = .ok (.bipush 101, 2) := by decide +kernel
theorem dX9_given_86 : decode cX9_given 86 = .ok (.iload_n 1, 1) := by decide +kernel
theorem dX9_given_87 : decode cX9_given 87 = .ok (.iadd, 1) := by decide +kernel
theorem dX9_given_88 : decode cX9_given 88 = .ok (.iaload, 1) := by decide +kernel
theorem dX9_given_89 : decode cX9_given 89 = .ok (.ireturn, 1) := by decide +kernel
theorem dX9_given_90 : decode cX9_given 90 = .ok (.aload_n 0, 1) := by decide +kernel
theorem dX9_given_91 : decode cX9_given 91 = .ok (.getfield 7, 3) := by decide +kernel
theorem dX9_given_94 : decode cX9_given 94 = .ok (.bipush 113, 2) := by decide +kernel
theorem dX9_given_96 : decode cX9_given 96 = .ok (.iload_n 1, 1) := by decide +kernel
theorem dX9_given_97 : decode cX9_given 97 = .ok (.iadd, 1) := by decide +kernel
theorem dX9_given_98 : decode cX9_given 98 = .ok (.iaload, 1) := by decide +kernel
theorem dX9_given_99 : decode cX9_given 99 = .ok (.ireturn, 1) := by decide +kernel
theorem dX9_given_100 : decode cX9_given 100 = .ok (.aload_n 0, 1) := by decide +kernel
theorem dX9_given_101 : decode cX9_given 101 = .ok (.getfield 7, 3) := by decide +kernel
theorem dX9_given_104 : decode cX9_given 104 = .ok (.bipush 47, 2) := by decide +kernel
theorem dX9_given_106 : decode cX9_given 106 = .ok (.iload_n 1, 1) := by decide +kernel
theorem dX9_given_107 : decode cX9_given 107 = .ok (.iadd, 1) := by decide +kernel
theorem dX9_given_108 : decode cX9_given 108 = .ok (.iaload, 1) := by decide +kernel
theorem dX9_given_109 : decode cX9_given 109 = .ok (.ireturn, 1) := by decide +kernel
theorem dX9_given_110 : decode cX9_given 110 = .ok (.aload_n 0, 1) := by decide +kernel
theorem dX9_given_111 : decode cX9_given 111 = .ok (.getfield 7, 3) := by decide +kernel
theorem dX9_given_114 : decode cX9_given 114 = .ok (.bipush 59, 2) := by decide +kernel
theorem dX9_given_116 : decode cX9_given 116 = .ok (.iload_n 1, 1) := by decide +kernel
theorem dX9_given_117 : decode cX9_given 117 = .ok (.iadd, 1) := by decide +kernel
theorem dX9_given_118 : decode cX9_given 118 = .ok (.iaload, 1) := by decide +kernel
theorem dX9_given_119 : decode cX9_given 119 = .ok (.ireturn, 1) := by decide +kernel
theorem dX9_given_120 : decode cX9_given 120 = .ok (.iconst (-1), 1) := by decide +kernel
theorem dX9_given_121 : decode cX9_given 121 = .ok (.ireturn, 1) := by decide +kernel
theorem dX9_go_0 : decode cX9_go 0 = .ok (.iload_n 1, 1) := by decide +kernel
theorem dX9_go_1 : decode cX9_go 1 = .ok (.i2l, 1) := by decide +kernel
theorem dX9_go_2 : decode cX9_go 2 = .ok (.lconst 1, 1) := by decide +kernel
theorem dX9_go_3 : decode cX9_go 3 = .ok (.ldc2_w 256, 3) := by decide +kernel
theorem dX9_go_6 : decode cX9_go 6 = .ok (.invokestatic 114, 3) := by decide +kernel
theorem dX9_go_9 : decode cX9_go 9 = .ok (.ifCond .ne 5, 3) := by decide +kernel
theorem dX9_go_12 : decode cX9_go 12 = .ok (.iconst (-1), 1) := by decide +kernel
theorem dX9_go_13 : decode cX9_go 13 = .ok (.ireturn, 1) := by decide +kernel
theorem dX9_go_14 : decode cX9_go 14 = .ok (.iconst 0, 1) := by decide +kernel
theorem dX9_go_15 : decode cX9_go 15 = .ok (.istore_n 2, 1) := by decide +kernel
theorem dX9_go_16 : decode cX9_go 16 = .ok (.iload_n 2, 1) := by decide +kernel
theorem dX9_go_17 : decode cX9_go 17 = .ok (.iload_n 1, 1) := by decide +kernel
theorem dX9_go_18 : decode cX9_go 18 = .ok (.if_icmp .ge 14, 3) := by decide +kernel
theorem dX9_go_21 : decode cX9_go 21 = .ok (.aload_n 0, 1) := by decide +kernel
theorem dX9_go_22 : decode cX9_go 22 = .ok (.iconst 0, 1) := by decide +kernel
theorem dX9_go_23 : decode cX9_go 23 = .ok (.invokevirtual 258, 3) := by decide +kernel
theorem dX9_go_26 : decode cX9_go 26 = .ok (.iinc 2 1, 3) := by decide +kernel
theorem dX9_go_29 : decode cX9_go 29 = .ok (.goto (-13), 3) := by decide +kernel
theorem dX9_go_32 : decode cX9_go 32 = .ok (.aload_n 0, 1) := by decide +kernel
theorem dX9_go_33 : decode cX9_go 33 = .ok (.iconst 0, 1) := by decide +kernel
theorem dX9_go_34 : decode cX9_go 34 = .ok (.invokevirtual 202, 3) := by decide +kernel
theorem dX9_go_37 : decode cX9_go 37 = .ok (.ireturn, 1) := by decide +kernel
theorem dX9_untilWith_0 : decode cX9_untilWith 0 = .ok (.aload_n 0, 1) := by decide +kernel
theorem dX9_untilWith_1 : decode cX9_untilWith 1 = .ok (.invokevirtual 283, 3) := by decide +kernel
theorem dX9_untilWith_4 : decode cX9_untilWith 4 = .ok (.aload_n 0, 1) := by decide +kernel
theorem dX9_untilWith_5 : decode cX9_untilWith 5 = .ok (.sipush 384, 3) := by decide +kernel
theorem dX9_untilWith_8 : decode cX9_untilWith 8 = .ok (.aload_n 0, 1) := by decide +kernel
theorem dX9_untilWith_9 : decode cX9_untilWith 9 = .ok (.getfield 7, 3) := by decide +kernel
theorem dX9_untilWith_12 : decode cX9_untilWith 12 = .ok (.bipush 71, 2) := by decide +kernel
theorem dX9_untilWith_14 : decode cX9_untilWith 14 = .ok (.iaload, 1) := by decide +kernel
theorem dX9_untilWith_15 : decode cX9_untilWith 15 = .ok (.iload_n 2, 1) := by decide +kernel
theorem dX9_untilWith_16 : decode cX9_untilWith 16 = .ok (.iadd, 1) := by decide +kernel
theorem dX9_untilWith_17 : decode cX9_untilWith 17 = .ok (.iconst 0, 1) := by decide +kernel
theorem dX9_untilWith_18 : decode cX9_untilWith 18 = .ok (.iload_n 1, 1) := by decide +kernel
theorem dX9_untilWith_19 : decode cX9_untilWith 19 = .ok (.iconst 0, 1) := by decide +kernel
theorem dX9_untilWith_20 : decode cX9_untilWith 20 = .ok (.invokevirtual 270, 3) := by decide +kernel
theorem dX9_untilWith_23 : decode cX9_untilWith 23 = .ok (.aload_n 0, 1) := by decide +kernel
theorem dX9_untilWith_24 : decode cX9_untilWith 24 = .ok (.iload_n 3, 1) := by decide +kernel
theorem dX9_untilWith_25 : decode cX9_untilWith 25 = .ok (.invokevirtual 277, 3) := by decide +kernel
theorem dX9_untilWith_28 : decode cX9_untilWith 28 = .ok (.aload_n 0, 1) := by decide +kernel
theorem dX9_untilWith_29 : decode cX9_untilWith 29 = .ok (.invokevirtual 280, 3) := by decide +kernel
theorem dX9_untilWith_32 : decode cX9_untilWith 32 = .ok (.ireturn, 1) := by decide +kernel
theorem dX9_helps_0 : decode cX9_helps 0 = .ok (.iload_n 1, 1) := by decide +kernel
theorem dX9_helps_1 : decode cX9_helps 1 = .ok (.i2l, 1) := by decide +kernel
theorem dX9_helps_2 : decode cX9_helps 2 = .ok (.lconst 1, 1) := by decide +kernel
theorem dX9_helps_3 : decode cX9_helps 3 = .ok (.ldc2_w 310, 3) := by decide +kernel
theorem dX9_helps_6 : decode cX9_helps 6 = .ok (.invokestatic 114, 3) := by decide +kernel
theorem dX9_helps_9 : decode cX9_helps 9 = .ok (.ifCond .ne 5, 3) := by decide +kernel
theorem dX9_helps_12 : decode cX9_helps 12 = .ok (.iconst (-1), 1) := by decide +kernel
theorem dX9_helps_13 : decode cX9_helps 13 = .ok (.ireturn, 1) := by decide +kernel
theorem dX9_helps_14 : decode cX9_helps 14 = .ok (.iconst 0, 1) := by decide +kernel
theorem dX9_helps_15 : decode cX9_helps 15 = .ok (.istore_n 2, 1) := by decide +kernel
theorem dX9_helps_16 : decode cX9_helps 16 = .ok (.iconst 0, 1) := by decide +kernel
theorem dX9_helps_17 : decode cX9_helps 17 = .ok (.istore_n 3, 1) := by decide +kernel
theorem dX9_helps_18 : decode cX9_helps 18 = .ok (.iload_n 3, 1) := by decide +kernel
theorem dX9_helps_19 : decode cX9_helps 19 = .ok (.aload_n 0, 1) := by decide +kernel
theorem dX9_helps_20 : decode cX9_helps 20 = .ok (.getfield 96, 3) := by decide +kernel
theorem dX9_helps_23 : decode cX9_helps 23 = .ok (.if_icmp .ge 48, 3) := by decide +kernel
theorem dX9_helps_26 : decode cX9_helps 26 = .ok (.iload_n 2, 1) := by decide +kernel
theorem dX9_helps_27 : decode cX9_helps 27 = .ok (.aload_n 0, 1) := by decide +kernel
theorem dX9_helps_28 : decode cX9_helps 28 = .ok (.iload_n 3, 1) := by decide +kernel
theorem dX9_helps_29 : decode cX9_helps 29 = .ok (.invokevirtual 318, 3) := by decide +kernel
theorem dX9_helps_32 : decode cX9_helps 32 = .ok (.ifCond .eq 30, 3) := by decide +kernel
theorem dX9_helps_35 : decode cX9_helps 35 = .ok (.aload_n 0, 1) := by decide +kernel
theorem dX9_helps_36 : decode cX9_helps 36 = .ok (.iload_n 3, 1) := by decide +kernel
theorem dX9_helps_37 : decode cX9_helps 37 = .ok (.iconst 0, 1) := by decide +kernel
theorem dX9_helps_38 : decode cX9_helps 38 = .ok (.iload_n 1, 1) := by decide +kernel
theorem dX9_helps_39 : decode cX9_helps 39 = .ok (.invokevirtual 321, 3) := by decide +kernel
theorem dX9_helps_42 : decode cX9_helps 42 = .ok (.invokestatic 302, 3) := by decide +kernel
theorem dX9_helps_45 : decode cX9_helps 45 = .ok (.aload_n 0, 1) := by decide +kernel
theorem dX9_helps_46 : decode cX9_helps 46 = .ok (.iload_n 1, 1) := by decide +kernel
theorem dX9_helps_47 : decode cX9_helps 47 = .ok (.invokevirtual 286, 3) := by decide +kernel
theorem dX9_helps_50 : decode cX9_helps 50 = .ok (.invokestatic 302, 3) := by decide +kernel
theorem dX9_helps_53 : decode cX9_helps 53 = .ok (.if_icmp .le 9, 3) := by decide +kernel
theorem dX9_helps_56 : decode cX9_helps 56 = .ok (.iconst 1, 1) := by decide +kernel
theorem dX9_helps_57 : decode cX9_helps 57 = .ok (.iload_n 3, 1) := by decide +kernel
theorem dX9_helps_58 : decode cX9_helps 58 = .ok (.ishl, 1) := by decide +kernel
theorem dX9_helps_59 : decode cX9_helps 59 = .ok (.goto 4, 3) := by decide +kernel
theorem dX9_helps_62 : decode cX9_helps 62 = .ok (.iconst 0, 1) := by decide +kernel
theorem dX9_helps_63 : decode cX9_helps 63 = .ok (.ior, 1) := by decide +kernel
theorem dX9_helps_64 : decode cX9_helps 64 = .ok (.istore_n 2, 1) := by decide +kernel
theorem dX9_helps_65 : decode cX9_helps 65 = .ok (.iinc 3 1, 3) := by decide +kernel
theorem dX9_helps_68 : decode cX9_helps 68 = .ok (.goto (-50), 3) := by decide +kernel
theorem dX9_helps_71 : decode cX9_helps 71 = .ok (.iload_n 2, 1) := by decide +kernel
theorem dX9_helps_72 : decode cX9_helps 72 = .ok (.ireturn, 1) := by decide +kernel
theorem dX9_hold_0 : decode cX9_hold 0 = .ok (.aload_n 0, 1) := by decide +kernel
theorem dX9_hold_1 : decode cX9_hold 1 = .ok (.iload_n 1, 1) := by decide +kernel
theorem dX9_hold_2 : decode cX9_hold 2 = .ok (.invokevirtual 220, 3) := by decide +kernel
theorem dX9_hold_5 : decode cX9_hold 5 = .ok (.ifCond .eq 15, 3) := by decide +kernel
theorem dX9_hold_8 : decode cX9_hold 8 = .ok (.iload_n 2, 1) := by decide +kernel
theorem dX9_hold_9 : decode cX9_hold 9 = .ok (.i2l, 1) := by decide +kernel
theorem dX9_hold_10 : decode cX9_hold 10 = .ok (.lconst 0, 1) := by decide +kernel
theorem dX9_hold_11 : decode cX9_hold 11 = .ok (.ldc2_w 224, 3) := by decide +kernel
theorem dX9_hold_14 : decode cX9_hold 14 = .ok (.invokestatic 114, 3) := by decide +kernel
theorem dX9_hold_17 : decode cX9_hold 17 = .ok (.ifCond .ne 5, 3) := by decide +kernel
theorem dX9_hold_20 : decode cX9_hold 20 = .ok (.iconst (-1), 1) := by decide +kernel
theorem dX9_hold_21 : decode cX9_hold 21 = .ok (.ireturn, 1) := by decide +kernel
theorem dX9_hold_22 : decode cX9_hold 22 = .ok (.iload_n 2, 1) := by decide +kernel
theorem dX9_hold_23 : decode cX9_hold 23 = .ok (.iconst 3, 1) := by decide +kernel
theorem dX9_hold_24 : decode cX9_hold 24 = .ok (.if_icmp .ge 16, 3) := by decide +kernel
theorem dX9_hold_27 : decode cX9_hold 27 = .ok (.aload_n 0, 1) := by decide +kernel
theorem dX9_hold_28 : decode cX9_hold 28 = .ok (.getfield 17, 3) := by decide +kernel
theorem dX9_hold_31 : decode cX9_hold 31 = .ok (.iconst 4, 1) := by decide +kernel
theorem dX9_hold_32 : decode cX9_hold 32 = .ok (.iload_n 1, 1) := by decide +kernel
theorem dX9_hold_33 : decode cX9_hold 33 = .ok (.imul, 1) := by decide +kernel
theorem dX9_hold_34 : decode cX9_hold 34 = .ok (.iload_n 2, 1) := by decide +kernel
theorem dX9_hold_35 : decode cX9_hold 35 = .ok (.iadd, 1) := by decide +kernel
theorem dX9_hold_36 : decode cX9_hold 36 = .ok (.iaload, 1) := by decide +kernel
theorem dX9_hold_37 : decode cX9_hold 37 = .ok (.goto 42, 3) := by decide +kernel
theorem dX9_hold_40 : decode cX9_hold 40 = .ok (.iload_n 2, 1) := by decide +kernel
theorem dX9_hold_41 : decode cX9_hold 41 = .ok (.iconst 3, 1) := by decide +kernel
theorem dX9_hold_42 : decode cX9_hold 42 = .ok (.if_icmp .ne 14, 3) := by decide +kernel
theorem dX9_hold_45 : decode cX9_hold 45 = .ok (.aload_n 0, 1) := by decide +kernel
theorem dX9_hold_46 : decode cX9_hold 46 = .ok (.getfield 7, 3) := by decide +kernel
theorem dX9_hold_49 : decode cX9_hold 49 = .ok (.iconst 0, 1) := by decide +kernel
theorem dX9_hold_50 : decode cX9_hold 50 = .ok (.iload_n 1, 1) := by decide +kernel
theorem dX9_hold_51 : decode cX9_hold 51 = .ok (.iadd, 1) := by decide +kernel
theorem dX9_hold_52 : decode cX9_hold 52 = .ok (.iaload, 1) := by decide +kernel
theorem dX9_hold_53 : decode cX9_hold 53 = .ok (.goto 26, 3) := by decide +kernel
theorem dX9_hold_56 : decode cX9_hold 56 = .ok (.iload_n 2, 1) := by decide +kernel
theorem dX9_hold_57 : decode cX9_hold 57 = .ok (.iconst 4, 1) := by decide +kernel
theorem dX9_hold_58 : decode cX9_hold 58 = .ok (.if_icmp .ne 12, 3) := by decide +kernel
theorem dX9_hold_61 : decode cX9_hold 61 = .ok (.aload_n 0, 1) := by decide +kernel
theorem dX9_hold_62 : decode cX9_hold 62 = .ok (.iconst 0, 1) := by decide +kernel
theorem dX9_hold_63 : decode cX9_hold 63 = .ok (.iload_n 1, 1) := by decide +kernel
theorem dX9_hold_64 : decode cX9_hold 64 = .ok (.invokevirtual 214, 3) := by decide +kernel
theorem dX9_hold_67 : decode cX9_hold 67 = .ok (.goto 12, 3) := by decide +kernel
theorem dX9_hold_70 : decode cX9_hold 70 = .ok (.aload_n 0, 1) := by decide +kernel
theorem dX9_hold_71 : decode cX9_hold 71 = .ok (.getfield 7, 3) := by decide +kernel
theorem dX9_hold_74 : decode cX9_hold 74 = .ok (.bipush 8, 2) := by decide +kernel
theorem dX9_hold_76 : decode cX9_hold 76 = .ok (.iload_n 1, 1) := by decide +kernel
theorem dX9_hold_77 : decode cX9_hold 77 = .ok (.iadd, 1) := by decide +kernel
theorem dX9_hold_78 : decode cX9_hold 78 = .ok (.iaload, 1) := by decide +kernel
theorem dX9_hold_79 : decode cX9_hold 79 = .ok (.ireturn, 1) := by decide +kernel
theorem dX9_hole_0 : decode cX9_hole 0 = .ok (.iload_n 1, 1) := by decide +kernel
theorem dX9_hole_1 : decode cX9_hole 1 = .ok (.i2l, 1) := by decide +kernel
theorem dX9_hole_2 : decode cX9_hole 2 = .ok (.lconst 0, 1) := by decide +kernel
theorem dX9_hole_3 : decode cX9_hole 3 = .ok (.aload_n 0, 1) := by decide +kernel
theorem dX9_hole_4 : decode cX9_hole 4 = .ok (.getfield 99, 3) := by decide +kernel
theorem dX9_hole_7 : decode cX9_hole 7 = .ok (.iconst 1, 1) := by decide +kernel
theorem dX9_hole_8 : decode cX9_hole 8 = .ok (.isub, 1) := by decide +kernel
theorem dX9_hole_9 : decode cX9_hole 9 = .ok (.i2l, 1) := by decide +kernel
theorem dX9_hole_10 : decode cX9_hole 10 = .ok (.invokestatic 114, 3) := by decide +kernel
theorem dX9_hole_13 : decode cX9_hole 13 = .ok (.ifCond .eq 15, 3) := by decide +kernel
theorem dX9_hole_16 : decode cX9_hole 16 = .ok (.iload_n 2, 1) := by decide +kernel
theorem dX9_hole_17 : decode cX9_hole 17 = .ok (.i2l, 1) := by decide +kernel
theorem dX9_hole_18 : decode cX9_hole 18 = .ok (.lconst 0, 1) := by decide +kernel
theorem dX9_hole_19 : decode cX9_hole 19 = .ok (.ldc2_w 178, 3) := by decide +kernel
theorem dX9_hole_22 : decode cX9_hole 22 = .ok (.invokestatic 114, 3) := by decide +kernel
theorem dX9_hole_25 : decode cX9_hole 25 = .ok (.ifCond .ne 5, 3) := by decide +kernel
theorem dX9_hole_28 : decode cX9_hole 28 = .ok (.iconst (-1), 1) := by decide +kernel
theorem dX9_hole_29 : decode cX9_hole 29 = .ok (.ireturn, 1) := by decide +kernel
theorem dX9_hole_30 : decode cX9_hole 30 = .ok (.iload_n 2, 1) := by decide +kernel
theorem dX9_hole_31 : decode cX9_hole 31 = .ok (.iconst 3, 1) := by decide +kernel
theorem dX9_hole_32 : decode cX9_hole 32 = .ok (.if_icmp .ge 16, 3) := by decide +kernel
theorem dX9_hole_35 : decode cX9_hole 35 = .ok (.aload_n 0, 1) := by decide +kernel
theorem dX9_hole_36 : decode cX9_hole 36 = .ok (.getfield 23, 3) := by decide +kernel
theorem dX9_hole_39 : decode cX9_hole 39 = .ok (.iconst 3, 1) := by decide +kernel
theorem dX9_hole_40 : decode cX9_hole 40 = .ok (.iload_n 1, 1) := by decide +kernel
theorem dX9_hole_41 : decode cX9_hole 41 = .ok (.imul, 1) := by decide +kernel
theorem dX9_hole_42 : decode cX9_hole 42 = .ok (.iload_n 2, 1) := by decide +kernel
theorem dX9_hole_43 : decode cX9_hole 43 = .ok (.iadd, 1) := by decide +kernel
theorem dX9_hole_44 : decode cX9_hole 44 = .ok (.iaload, 1) := by decide +kernel
theorem dX9_hole_45 : decode cX9_hole 45 = .ok (.goto 26, 3) := by decide +kernel
theorem dX9_hole_48 : decode cX9_hole 48 = .ok (.iload_n 2, 1) := by decide +kernel
theorem dX9_hole_49 : decode cX9_hole 49 = .ok (.iconst 3, 1) := by decide +kernel
theorem dX9_hole_50 : decode cX9_hole 50 = .ok (.if_icmp .ne 15, 3) := by decide +kernel
theorem dX9_hole_53 : decode cX9_hole 53 = .ok (.aload_n 0, 1) := by decide +kernel
theorem dX9_hole_54 : decode cX9_hole 54 = .ok (.getfield 7, 3) := by decide +kernel
theorem dX9_hole_57 : decode cX9_hole 57 = .ok (.bipush 36, 2) := by decide +kernel
theorem dX9_hole_59 : decode cX9_hole 59 = .ok (.iload_n 1, 1) := by decide +kernel
theorem dX9_hole_60 : decode cX9_hole 60 = .ok (.iadd, 1) := by decide +kernel
theorem dX9_hole_61 : decode cX9_hole 61 = .ok (.iaload, 1) := by decide +kernel
theorem dX9_hole_62 : decode cX9_hole 62 = .ok (.goto 9, 3) := by decide +kernel
theorem dX9_hole_65 : decode cX9_hole 65 = .ok (.aload_n 0, 1) := by decide +kernel
theorem dX9_hole_66 : decode cX9_hole 66 = .ok (.iconst 0, 1) := by decide +kernel
theorem dX9_hole_67 : decode cX9_hole 67 = .ok (.iload_n 1, 1) := by decide +kernel
theorem dX9_hole_68 : decode cX9_hole 68 = .ok (.invokevirtual 231, 3) := by decide +kernel
theorem dX9_hole_71 : decode cX9_hole 71 = .ok (.ireturn, 1) := by decide +kernel
def b_X9_fits_15 (m : Mm) (a2 : Int32) (x1 : Int32) (t2 : Int32 × Int32) : Option ((Int32 × Int32) ⊕ (Int32)) :=
  if (m 113 36) ≤ (t2.2 + (1 : Int32)) then (some (Sum.inr t2.1)) else ((ald m 131 8 t2.2).bind fun x4 => (odiv ((12 : Int32) * x4) x1).bind fun x5 => (odiv ((a2 * ((12 : Int32) - x5)) + (11 : Int32)) (12 : Int32)).bind fun x6 => (ald m 131 8 t2.2).bind fun x7 => letv (x1 - x7) fun x8 => (if t2.1 = 0 then (some 0) else ((ald m 131 8 (t2.2 + (1 : Int32))).bind fun x10 => (ald m 131 8 t2.2).bind fun x11 => (if x8 ≤ x6 then (some x8) else (some x6) : Option (Int32)).bind fun y12 => if x10 = (x11 + y12) then (some 1) else (some 0)) : Option (Int32)).bind fun y9 => some (Sum.inl (y9, t2.2 + 1)))
def f_X9_fits (F : Nat) (m : Mm) (a1 : Int32) (a2 : Int32) : Option (Int32) :=
  (ald m 116 32 ((4 : Int32) * a1)).bind fun x1 => (iter F (b_X9_fits_15 m a2 x1) ((1, 0) : Int32 × Int32)).bind (fun e3 : Int32 => bG e3)
set_option maxHeartbeats 4000000 in
set_option maxRecDepth 100000 in
theorem ct_X9_fits (F : Nat) {n : Nat} (hn : 135 ≤ n) (P D : Nat) (T : Option Nat) (m : Mm) (a1 : Int32) (a2 : Int32) : Ct yX9_fits cX9_fits 8 (some .boolean) 0 0 [.ref 113, .int a1, .int a2] n n m (RF P D T) (rP m (RF P D T) (f_X9_fits F m a1 a2)) := by
  refine Ct.ofP (own := RX9) (nm := "fits") [(0, .ref 113), (1, .int a1), (2, .int a2)] (by decide) (Nat.le_of_ble_eq_true rfl) rfl rfl rfl ?_
  unfold f_X9_fits
  refine J_aload_n 0 0 113 dX9_fits_0 rfl rfl ?_
  refine J_getR 113 9 3 116 dX9_fits_1 fl_9_17 rfl rfl (Nat.lt_of_lt_of_le (Nat.le_of_ble_eq_true rfl) hn) rfl ?_
  refine J_iconst 4 dX9_fits_4 (by decide) ?_
  refine J_iload_n 1 1 a1 dX9_fits_5 rfl rfl ?_
  refine J_imul dX9_fits_6 ?_
  refine J_iald 116 32 dX9_fits_7 rfl (Nat.lt_of_lt_of_le (Nat.le_of_ble_eq_true rfl) hn) (fun x1 => ?_)
  refine J_istore_n 3 [(3, .int x1), (0, .ref 113), (1, .int a1), (2, .int a2)] dX9_fits_8 rfl (by decide) rfl ?_
  refine J_iconst 1 dX9_fits_9 (by decide) ?_
  refine J_istore 4 [(4, .int 1), (3, .int x1), (0, .ref 113), (1, .int a1), (2, .int a2)] dX9_fits_10 (by decide) rfl ?_
  refine J_iconst 0 dX9_fits_12 (by decide) ?_
  refine J_istore 5 [(5, .int 0), (4, .int 1), (3, .int x1), (0, .ref 113), (1, .int a1), (2, .int a2)] dX9_fits_13 (by decide) rfl ?_
  refine J_lv [3, 5, 2, 1, 0] rfl ?_
  refine J_loop (pc := 15) (fun t2 : Int32 × Int32 => [(0, .ref 113), (2, .int a2), (3, .int x1), (4, .int t2.1), (5, .int t2.2)]) (fun t2 => m) (fun _ => 114) (fun e3 => [(4, .int e3)]) (fun _ => []) (fun e3 => m) ?_ (fun t2 k1 hBt2 hXt2 => ?_) F ((1, 0))
  · refine fun e3 => ?_
    refine J_iload 4 0 e3 dX9_fits_114 rfl ?_
    exact J_bretP dX9_fits_116 rfl rfl
  · unfold b_X9_fits_15
    refine J_iload 5 4 t2.2 dX9_fits_15 rfl ?_
    refine J_iconst 1 dX9_fits_17 (by decide) ?_
    refine J_iadd dX9_fits_18 ?_
    refine J_aload_n 0 0 113 dX9_fits_19 rfl rfl ?_
    refine J_getI 113 9 36 dX9_fits_20 fl_9_350 rfl rfl (Nat.lt_of_lt_of_le (Nat.le_of_ble_eq_true rfl) hn) ?_
    refine J_icmp_ge 114 dX9_fits_23 (by decide) ?_ ?_
    · exact J_lv [3] rfl (hXt2 t2.1)
    · refine J_iload_n 2 1 a2 dX9_fits_26 rfl rfl ?_
      refine J_bipush 12 dX9_fits_27 (by decide) ?_
      refine J_bipush 12 dX9_fits_29 (by decide) ?_
      refine J_aload_n 0 0 113 dX9_fits_31 rfl rfl ?_
      refine J_getR 113 9 37 131 dX9_fits_32 fl_9_62 rfl rfl (Nat.lt_of_lt_of_le (Nat.le_of_ble_eq_true rfl) hn) rfl ?_
      refine J_iload 5 4 t2.2 dX9_fits_35 rfl ?_
      refine J_iald 131 8 dX9_fits_37 rfl (Nat.lt_of_lt_of_le (Nat.le_of_ble_eq_true rfl) hn) (fun x4 => ?_)
      refine J_imul dX9_fits_38 ?_
      refine J_iload_n 3 2 x1 dX9_fits_39 rfl rfl ?_
      refine J_idiv dX9_fits_40 (fun x5 => ?_)
      refine J_isub dX9_fits_41 ?_
      refine J_imul dX9_fits_42 ?_
      refine J_bipush 11 dX9_fits_43 (by decide) ?_
      refine J_iadd dX9_fits_45 ?_
      refine J_bipush 12 dX9_fits_46 (by decide) ?_
      refine J_idiv dX9_fits_48 (fun x6 => ?_)
      refine J_istore 6 [(6, .int x6), (0, .ref 113), (2, .int a2), (3, .int x1), (4, .int t2.1), (5, .int t2.2)] dX9_fits_49 (by decide) rfl ?_
      refine J_iload_n 3 3 x1 dX9_fits_51 rfl rfl ?_
      refine J_aload_n 0 1 113 dX9_fits_52 rfl rfl ?_
      refine J_getR 113 9 37 131 dX9_fits_53 fl_9_62 rfl rfl (Nat.lt_of_lt_of_le (Nat.le_of_ble_eq_true rfl) hn) rfl ?_
      refine J_iload 5 5 t2.2 dX9_fits_56 rfl ?_
      refine J_iald 131 8 dX9_fits_58 rfl (Nat.lt_of_lt_of_le (Nat.le_of_ble_eq_true rfl) hn) (fun x7 => ?_)
      refine J_isub dX9_fits_59 ?_
      refine J_let (fun x8 => ?_)
      refine J_istore 7 [(7, .int x8), (6, .int x6), (0, .ref 113), (2, .int a2), (3, .int x1), (4, .int t2.1), (5, .int t2.2)] dX9_fits_60 (by decide) rfl ?_
      refine J_iload 4 5 t2.1 dX9_fits_62 rfl ?_
      refine J_seqJ 106 (fun y9 : Int32 => [(0, .ref 113), (2, .int a2), (3, .int x1), (5, .int t2.2)]) (fun y9 => [.int y9]) (fun y9 => m) (fun y9 => ?_) (fun k1 hEy9 => ?_)
      · refine J_istore 4 [(4, .int y9), (0, .ref 113), (2, .int a2), (3, .int x1), (5, .int t2.2)] dX9_fits_106 (by decide) rfl ?_
        refine J_iinc 5 4 [(5, .int (t2.2 + 1)), (4, .int y9), (0, .ref 113), (2, .int a2), (3, .int x1)] t2.2 (t2.2 + 1) dX9_fits_108 rfl rfl (by decide) rfl ?_
        refine J_goto 15 dX9_fits_111 (by decide) ?_
        exact J_lv [2, 3, 4, 1, 0] rfl (hBt2 (y9, t2.2 + 1))
      · refine J_if_eq 105 dX9_fits_64 (by decide) ?_ ?_
        · refine J_iconst 0 dX9_fits_105 (by decide) ?_
          exact J_lv [2, 3, 4, 6] rfl (hEy9 0)
        · refine J_aload_n 0 2 113 dX9_fits_67 rfl rfl ?_
          refine J_getR 113 9 37 131 dX9_fits_68 fl_9_62 rfl rfl (Nat.lt_of_lt_of_le (Nat.le_of_ble_eq_true rfl) hn) rfl ?_
          refine J_iload 5 6 t2.2 dX9_fits_71 rfl ?_
          refine J_iconst 1 dX9_fits_73 (by decide) ?_
          refine J_iadd dX9_fits_74 ?_
          refine J_iald 131 8 dX9_fits_75 rfl (Nat.lt_of_lt_of_le (Nat.le_of_ble_eq_true rfl) hn) (fun x10 => ?_)
          refine J_aload_n 0 2 113 dX9_fits_76 rfl rfl ?_
          refine J_getR 113 9 37 131 dX9_fits_77 fl_9_62 rfl rfl (Nat.lt_of_lt_of_le (Nat.le_of_ble_eq_true rfl) hn) rfl ?_
          refine J_iload 5 6 t2.2 dX9_fits_80 rfl ?_
          refine J_iald 131 8 dX9_fits_82 rfl (Nat.lt_of_lt_of_le (Nat.le_of_ble_eq_true rfl) hn) (fun x11 => ?_)
          refine J_iload 6 1 x6 dX9_fits_83 rfl ?_
          refine J_iload 7 0 x8 dX9_fits_85 rfl ?_
          refine J_seqJ 97 (fun y12 : Int32 => [(0, .ref 113), (2, .int a2), (3, .int x1), (5, .int t2.2)]) (fun y12 => [.int y12, .int x11, .int x10]) (fun y12 => m) (fun y12 => ?_) (fun k1 hEy12 => ?_)
          · refine J_iadd dX9_fits_97 ?_
            refine J_icmp_ne 105 dX9_fits_98 (by decide) ?_ ?_
            · refine J_iconst 0 dX9_fits_105 (by decide) ?_
              exact J_lv [0, 1, 2, 3] rfl (hEy9 0)
            · refine J_iconst 1 dX9_fits_101 (by decide) ?_
              refine J_goto 106 dX9_fits_102 (by decide) ?_
              exact J_lv [0, 1, 2, 3] rfl (hEy9 1)
          · refine J_icmp_ge 95 dX9_fits_87 (by decide) ?_ ?_
            · refine J_iload 7 0 x8 dX9_fits_95 rfl ?_
              exact J_lv [2, 3, 4, 6] rfl (hEy12 x8)
            · refine J_iload 6 1 x6 dX9_fits_90 rfl ?_
              refine J_goto 97 dX9_fits_92 (by decide) ?_
              exact J_lv [2, 3, 4, 6] rfl (hEy12 x6)
def b_X9_runs_13 (F : Nat) (a1 : Int32) (t4 : Int32 × Mm) : Option ((Int32 × Mm) ⊕ (Mm)) :=
  if a1 ≤ t4.1 then (some (Sum.inr t4.2)) else ((f_X9_aMinute F t4.2 384).bind fun m7 => (f_X9_listOf F m7 384).bind fun x8 => (if x8 ≤ (m7 113 29) then (some (m7 113 29)) else ((f_X9_listOf F m7 384).bind fun x11 => some x11) : Option (Int32)).bind fun y10 => letv (up2 m7 113 29 y10) fun m13 => some (Sum.inl (t4.1 + 1, m13)))
def f_X9_runs (F : Nat) (m : Mm) (a1 : Int32) : Option (Mm) :=
  (f_X9_listOf F m 384).bind fun x1 => letv (up2 m 113 29 x1) fun m3 => (iter F (b_X9_runs_13 F a1) ((0, m3) : Int32 × Mm)).bind (fun e5 : Mm => some e5)
set_option maxHeartbeats 4000000 in
set_option maxRecDepth 100000 in
theorem ct_X9_runs (F : Nat) {n : Nat} (hn : 135 ≤ n) (P D : Nat) (T : Option Nat) (m : Mm) (a1 : Int32) : Ct yX9_runs cX9_runs 3 none 5 106 [.ref 113, .int a1] n n m (RF P D T) (rV (RF P D T) (f_X9_runs F m a1)) := by
  refine Ct.ofV (own := RX9) (nm := "runs") [(0, .ref 113), (1, .int a1)] (by decide) (Nat.le_of_ble_eq_true rfl) rfl rfl rfl ?_
  unfold f_X9_runs
  refine J_aload_n 0 0 113 dX9_runs_0 rfl rfl ?_
  refine J_aload_n 0 0 113 dX9_runs_1 rfl rfl ?_
  refine J_sipush 384 dX9_runs_2 (by decide) ?_
  refine J_callVP 113 9 1 [.int 384] dX9_runs_5 mv_X9_listOf mv_X9_listOfv lk_9_205 (ct_X9_listOf F hn P D T m 384) rfl rfl (by decide) rfl (Nat.lt_of_lt_of_le (Nat.le_of_ble_eq_true rfl) hn) ⟨by decide, by decide⟩ (Nat.le_of_ble_eq_true rfl) (fun x1 => ?_)
  refine J_putI 113 9 29 dX9_runs_8 fl_9_274 rfl rfl (Nat.lt_of_lt_of_le (Nat.le_of_ble_eq_true rfl) hn) rfl rfl rfl (fun m3 => ?_)
  refine J_iconst 0 dX9_runs_11 (by decide) ?_
  refine J_istore_n 2 [(2, .int 0), (0, .ref 113), (1, .int a1)] dX9_runs_12 rfl (by decide) rfl ?_
  refine J_lv [1, 2, 0] rfl ?_
  refine J_loop (pc := 13) (fun t4 : Int32 × Mm => [(0, .ref 113), (1, .int a1), (2, .int t4.1)]) (fun t4 => t4.2) (fun _ => 63) (fun e5 => []) (fun _ => []) (fun e5 => e5) ?_ (fun t4 k1 hBt4 hXt4 => ?_) F ((0, m3))
  · refine fun e5 => ?_
    exact J_vretV dX9_runs_63 rfl rfl
  · unfold b_X9_runs_13
    refine J_iload_n 2 2 t4.1 dX9_runs_13 rfl rfl ?_
    refine J_iload_n 1 1 a1 dX9_runs_14 rfl rfl ?_
    refine J_icmp_ge 63 dX9_runs_15 (by decide) ?_ ?_
    · exact J_lv [] rfl (hXt4 t4.2)
    · refine J_aload_n 0 0 113 dX9_runs_18 rfl rfl ?_
      refine J_sipush 384 dX9_runs_19 (by decide) ?_
      refine J_callVV 113 9 1 [.int 384] dX9_runs_22 mv_X9_aMinute mv_X9_aMinutev lk_9_258 (ct_X9_aMinute F hn P D T t4.2 384) rfl rfl (by decide) rfl (Nat.lt_of_lt_of_le (Nat.le_of_ble_eq_true rfl) hn) ⟨by decide, by decide⟩ (Nat.le_of_ble_eq_true rfl) (fun m7 => ?_)
      refine J_aload_n 0 0 113 dX9_runs_25 rfl rfl ?_
      refine J_aload_n 0 0 113 dX9_runs_26 rfl rfl ?_
      refine J_sipush 384 dX9_runs_27 (by decide) ?_
      refine J_callVP 113 9 1 [.int 384] dX9_runs_30 mv_X9_listOf mv_X9_listOfv lk_9_205 (ct_X9_listOf F hn P D T m7 384) rfl rfl (by decide) rfl (Nat.lt_of_lt_of_le (Nat.le_of_ble_eq_true rfl) hn) ⟨by decide, by decide⟩ (Nat.le_of_ble_eq_true rfl) (fun x8 => ?_)
      refine J_aload_n 0 0 113 dX9_runs_33 rfl rfl ?_
      refine J_getI 113 9 29 dX9_runs_34 fl_9_274 rfl rfl (Nat.lt_of_lt_of_le (Nat.le_of_ble_eq_true rfl) hn) ?_
      refine J_seqJ 54 (fun y10 : Int32 => [(0, .ref 113), (1, .int a1), (2, .int t4.1)]) (fun y10 => [.int y10, .ref 113]) (fun y10 => m7) (fun y10 => ?_) (fun k1 hEy10 => ?_)
      · refine J_putI 113 9 29 dX9_runs_54 fl_9_274 rfl rfl (Nat.lt_of_lt_of_le (Nat.le_of_ble_eq_true rfl) hn) rfl rfl rfl (fun m13 => ?_)
        refine J_iinc 2 2 [(2, .int (t4.1 + 1)), (0, .ref 113), (1, .int a1)] t4.1 (t4.1 + 1) dX9_runs_57 rfl rfl (by decide) rfl ?_
        refine J_goto 13 dX9_runs_60 (by decide) ?_
        exact J_lv [1, 2, 0] rfl (hBt4 (t4.1 + 1, m13))
      · refine J_icmp_le 50 dX9_runs_37 (by decide) ?_ ?_
        · refine J_aload_n 0 0 113 dX9_runs_50 rfl rfl ?_
          refine J_getI 113 9 29 dX9_runs_51 fl_9_274 rfl rfl (Nat.lt_of_lt_of_le (Nat.le_of_ble_eq_true rfl) hn) ?_
          exact J_lv [0, 1, 2] rfl (hEy10 (m7 113 29))
        · refine J_aload_n 0 0 113 dX9_runs_40 rfl rfl ?_
          refine J_sipush 384 dX9_runs_41 (by decide) ?_
          refine J_callVP 113 9 1 [.int 384] dX9_runs_44 mv_X9_listOf mv_X9_listOfv lk_9_205 (ct_X9_listOf F hn P D T m7 384) rfl rfl (by decide) rfl (Nat.lt_of_lt_of_le (Nat.le_of_ble_eq_true rfl) hn) ⟨by decide, by decide⟩ (Nat.le_of_ble_eq_true rfl) (fun x11 => ?_)
          refine J_goto 54 dX9_runs_47 (by decide) ?_
          exact J_lv [0, 1, 2] rfl (hEy10 x11)
def f_X9_freeFor (F : Nat) (m : Mm) (a1 : Int32) : Option (Int32 × Mm) :=
  (f_X9_frees F m).bind fun m2 => (f_X9_runs F m2 a1).bind fun m4 => (f_X9_untilSunk m4).bind fun x5 => some (x5, m4)
set_option maxHeartbeats 4000000 in
set_option maxRecDepth 100000 in
theorem ct_X9_freeFor (F : Nat) {n : Nat} (hn : 135 ≤ n) (P D : Nat) (T : Option Nat) (m : Mm) (a1 : Int32) : Ct yX9_freeFor cX9_freeFor 2 (some .int) 6 128 [.ref 113, .int a1] n n m (RF P D T) (rI (RF P D T) (f_X9_freeFor F m a1)) := by
  refine Ct.ofI (own := RX9) (nm := "freeFor") [(0, .ref 113), (1, .int a1)] (by decide) (Nat.le_of_ble_eq_true rfl) rfl rfl rfl ?_
  unfold f_X9_freeFor
  refine J_aload_n 0 0 113 dX9_freeFor_0 rfl rfl ?_
  refine J_callVV 113 9 0 [] dX9_freeFor_1 mv_X9_frees mv_X9_freesv lk_9_283 (ct_X9_frees F hn P D T m) rfl rfl (by decide) rfl (Nat.lt_of_lt_of_le (Nat.le_of_ble_eq_true rfl) hn) ⟨by decide, by decide⟩ (Nat.le_of_ble_eq_true rfl) (fun m2 => ?_)
  refine J_aload_n 0 0 113 dX9_freeFor_4 rfl rfl ?_
  refine J_iload_n 1 1 a1 dX9_freeFor_5 rfl rfl ?_
  refine J_callVV 113 9 1 [.int a1] dX9_freeFor_6 mv_X9_runs mv_X9_runsv lk_9_277 (ct_X9_runs F hn P D T m2 a1) rfl rfl (by decide) rfl (Nat.lt_of_lt_of_le (Nat.le_of_ble_eq_true rfl) hn) ⟨by decide, by decide⟩ (Nat.le_of_ble_eq_true rfl) (fun m4 => ?_)
  refine J_aload_n 0 0 113 dX9_freeFor_9 rfl rfl ?_
  refine J_callVP 113 9 0 [] dX9_freeFor_10 mv_X9_untilSunk mv_X9_untilSunkv lk_9_280 (ct_X9_untilSunk F hn P D T m4) rfl rfl (by decide) rfl (Nat.lt_of_lt_of_le (Nat.le_of_ble_eq_true rfl) hn) ⟨by decide, by decide⟩ (Nat.le_of_ble_eq_true rfl) (fun x5 => ?_)
  exact J_iretI dX9_freeFor_13 rfl rfl
def f_X9_free (F : Nat) (m : Mm) (a1 : Int32) : Option (Int32 × Mm) :=
  (f_X9_in a1.toInt64 1 120).bind fun x1 => if x1 = 0 then (some ((-1), m)) else (bind2 (f_X9_freeFor F m a1) fun x3 m4 => some (x3, m4))
set_option maxHeartbeats 4000000 in
set_option maxRecDepth 100000 in
theorem ct_X9_free (F : Nat) {n : Nat} (hn : 135 ≤ n) (P D : Nat) (T : Option Nat) (m : Mm) (a1 : Int32) : Ct yX9_free cX9_free 2 (some .int) 7 149 [.ref 113, .int a1] n n m (RF P D T) (rI (RF P D T) (f_X9_free F m a1)) := by
  refine Ct.ofI (own := RX9) (nm := "free") [(0, .ref 113), (1, .int a1)] (by decide) (Nat.le_of_ble_eq_true rfl) rfl rfl rfl ?_
  unfold f_X9_free
  refine J_iload_n 1 1 a1 dX9_free_0 rfl rfl ?_
  refine J_i2l dX9_free_1 ?_
  refine J_lconst 1 dX9_free_2 (by decide) ?_
  refine J_ldc2 120 dX9_free_3 kl_9_256 ?_
  refine J_callSP 3 [.long a1.toInt64, .long 1, .long 120] dX9_free_6 mv_X9_in mv_X9_ins lk_9_114 (ct_X9_in F hn P D T m a1.toInt64 1 120) rfl ⟨by decide, by decide⟩ (Nat.le_of_ble_eq_true rfl) (fun x1 => ?_)
  refine J_if_eq 20 dX9_free_9 (by decide) ?_ ?_
  · refine J_iconst (-1) dX9_free_20 (by decide) ?_
    exact J_iretI dX9_free_21 rfl rfl
  · refine J_aload_n 0 0 113 dX9_free_12 rfl rfl ?_
    refine J_iload_n 1 1 a1 dX9_free_13 rfl rfl ?_
    refine J_callVI 113 9 1 [.int a1] dX9_free_14 mv_X9_freeFor mv_X9_freeForv lk_9_286 (ct_X9_freeFor F hn P D T m a1) rfl rfl (by decide) rfl (Nat.lt_of_lt_of_le (Nat.le_of_ble_eq_true rfl) hn) ⟨by decide, by decide⟩ (Nat.le_of_ble_eq_true rfl) (fun x3 m4 => ?_)
    refine J_goto 21 dX9_free_17 (by decide) ?_
    exact J_iretI dX9_free_21 rfl rfl
def f_X9_given (m : Mm) (a1 : Int32) (a2 : Int32) : Option (Int32) :=
  (ald m 114 512 76).bind fun x1 => (f_X9_in a1.toInt64 0 ((x1 - (1 : Int32)).toInt64)).bind fun x2 => if x2 = 0 then (some (-1)) else (if a2 = 0 then ((ald m 114 512 ((77 : Int32) + a1)).bind fun x4 => some x4) else (if a2 = 1 then ((ald m 114 512 ((89 : Int32) + a1)).bind fun x5 => some x5) else (if a2 = 2 then ((ald m 114 512 ((101 : Int32) + a1)).bind fun x6 => some x6) else (if a2 = 3 then ((ald m 114 512 ((113 : Int32) + a1)).bind fun x7 => some x7) else (if a2 = 4 then ((ald m 114 512 ((47 : Int32) + a1)).bind fun x8 => some x8) else (if a2 = 5 then ((ald m 114 512 ((59 : Int32) + a1)).bind fun x9 => some x9) else (some (-1))))))))
set_option maxHeartbeats 4000000 in
set_option maxRecDepth 100000 in
theorem ct_X9_given (F : Nat) {n : Nat} (hn : 135 ≤ n) (P D : Nat) (T : Option Nat) (m : Mm) (a1 : Int32) (a2 : Int32) : Ct yX9_given cX9_given 3 (some .int) 1 25 [.ref 113, .int a1, .int a2] n n m (RF P D T) (rP m (RF P D T) (f_X9_given m a1 a2)) := by
  refine Ct.ofP (own := RX9) (nm := "given") [(0, .ref 113), (1, .int a1), (2, .int a2)] (by decide) (Nat.le_of_ble_eq_true rfl) rfl rfl rfl ?_
  unfold f_X9_given
  refine J_iload_n 1 1 a1 dX9_given_0 rfl rfl ?_
  refine J_i2l dX9_given_1 ?_
  refine J_lconst 0 dX9_given_2 (by decide) ?_
  refine J_aload_n 0 0 113 dX9_given_3 rfl rfl ?_
  refine J_getR 113 9 0 114 dX9_given_4 fl_9_7 rfl rfl (Nat.lt_of_lt_of_le (Nat.le_of_ble_eq_true rfl) hn) rfl ?_
  refine J_bipush 76 dX9_given_7 (by decide) ?_
  refine J_iald 114 512 dX9_given_9 rfl (Nat.lt_of_lt_of_le (Nat.le_of_ble_eq_true rfl) hn) (fun x1 => ?_)
  refine J_iconst 1 dX9_given_10 (by decide) ?_
  refine J_isub dX9_given_11 ?_
  refine J_i2l dX9_given_12 ?_
  refine J_callSP 3 [.long a1.toInt64, .long 0, .long ((x1 - (1 : Int32)).toInt64)] dX9_given_13 mv_X9_in mv_X9_ins lk_9_114 (ct_X9_in F hn P D T m a1.toInt64 0 ((x1 - (1 : Int32)).toInt64)) rfl ⟨by decide, by decide⟩ (Nat.le_of_ble_eq_true rfl) (fun x2 => ?_)
  refine J_if_ne 21 dX9_given_16 (by decide) ?_ ?_
  · refine J_iload_n 2 2 a2 dX9_given_21 rfl rfl ?_
    refine J_split (c1 := 0) (fun hs22_0 => ?_) (fun hs22_0 => ?_)
    · refine J_tsIn 60 hs22_0 dX9_given_22 (by decide) (by decide) rfl (by decide) ?_
      refine J_aload_n 0 0 113 dX9_given_60 rfl rfl ?_
      refine J_getR 113 9 0 114 dX9_given_61 fl_9_7 rfl rfl (Nat.lt_of_lt_of_le (Nat.le_of_ble_eq_true rfl) hn) rfl ?_
      refine J_bipush 77 dX9_given_64 (by decide) ?_
      refine J_iload_n 1 1 a1 dX9_given_66 rfl rfl ?_
      refine J_iadd dX9_given_67 ?_
      refine J_iald 114 512 dX9_given_68 rfl (Nat.lt_of_lt_of_le (Nat.le_of_ble_eq_true rfl) hn) (fun x4 => ?_)
      exact J_iretP dX9_given_69 rfl rfl
    · refine J_split (c1 := 1) (fun hs22_1 => ?_) (fun hs22_1 => ?_)
      · refine J_tsIn 70 hs22_1 dX9_given_22 (by decide) (by decide) rfl (by decide) ?_
        refine J_aload_n 0 0 113 dX9_given_70 rfl rfl ?_
        refine J_getR 113 9 0 114 dX9_given_71 fl_9_7 rfl rfl (Nat.lt_of_lt_of_le (Nat.le_of_ble_eq_true rfl) hn) rfl ?_
        refine J_bipush 89 dX9_given_74 (by decide) ?_
        refine J_iload_n 1 1 a1 dX9_given_76 rfl rfl ?_
        refine J_iadd dX9_given_77 ?_
        refine J_iald 114 512 dX9_given_78 rfl (Nat.lt_of_lt_of_le (Nat.le_of_ble_eq_true rfl) hn) (fun x5 => ?_)
        exact J_iretP dX9_given_79 rfl rfl
      · refine J_split (c1 := 2) (fun hs22_2 => ?_) (fun hs22_2 => ?_)
        · refine J_tsIn 80 hs22_2 dX9_given_22 (by decide) (by decide) rfl (by decide) ?_
          refine J_aload_n 0 0 113 dX9_given_80 rfl rfl ?_
          refine J_getR 113 9 0 114 dX9_given_81 fl_9_7 rfl rfl (Nat.lt_of_lt_of_le (Nat.le_of_ble_eq_true rfl) hn) rfl ?_
          refine J_bipush 101 dX9_given_84 (by decide) ?_
          refine J_iload_n 1 1 a1 dX9_given_86 rfl rfl ?_
          refine J_iadd dX9_given_87 ?_
          refine J_iald 114 512 dX9_given_88 rfl (Nat.lt_of_lt_of_le (Nat.le_of_ble_eq_true rfl) hn) (fun x6 => ?_)
          exact J_iretP dX9_given_89 rfl rfl
        · refine J_split (c1 := 3) (fun hs22_3 => ?_) (fun hs22_3 => ?_)
          · refine J_tsIn 90 hs22_3 dX9_given_22 (by decide) (by decide) rfl (by decide) ?_
            refine J_aload_n 0 0 113 dX9_given_90 rfl rfl ?_
            refine J_getR 113 9 0 114 dX9_given_91 fl_9_7 rfl rfl (Nat.lt_of_lt_of_le (Nat.le_of_ble_eq_true rfl) hn) rfl ?_
            refine J_bipush 113 dX9_given_94 (by decide) ?_
            refine J_iload_n 1 1 a1 dX9_given_96 rfl rfl ?_
            refine J_iadd dX9_given_97 ?_
            refine J_iald 114 512 dX9_given_98 rfl (Nat.lt_of_lt_of_le (Nat.le_of_ble_eq_true rfl) hn) (fun x7 => ?_)
            exact J_iretP dX9_given_99 rfl rfl
          · refine J_split (c1 := 4) (fun hs22_4 => ?_) (fun hs22_4 => ?_)
            · refine J_tsIn 100 hs22_4 dX9_given_22 (by decide) (by decide) rfl (by decide) ?_
              refine J_aload_n 0 0 113 dX9_given_100 rfl rfl ?_
              refine J_getR 113 9 0 114 dX9_given_101 fl_9_7 rfl rfl (Nat.lt_of_lt_of_le (Nat.le_of_ble_eq_true rfl) hn) rfl ?_
              refine J_bipush 47 dX9_given_104 (by decide) ?_
              refine J_iload_n 1 1 a1 dX9_given_106 rfl rfl ?_
              refine J_iadd dX9_given_107 ?_
              refine J_iald 114 512 dX9_given_108 rfl (Nat.lt_of_lt_of_le (Nat.le_of_ble_eq_true rfl) hn) (fun x8 => ?_)
              exact J_iretP dX9_given_109 rfl rfl
            · refine J_split (c1 := 5) (fun hs22_5 => ?_) (fun hs22_5 => ?_)
              · refine J_tsIn 110 hs22_5 dX9_given_22 (by decide) (by decide) rfl (by decide) ?_
                refine J_aload_n 0 0 113 dX9_given_110 rfl rfl ?_
                refine J_getR 113 9 0 114 dX9_given_111 fl_9_7 rfl rfl (Nat.lt_of_lt_of_le (Nat.le_of_ble_eq_true rfl) hn) rfl ?_
                refine J_bipush 59 dX9_given_114 (by decide) ?_
                refine J_iload_n 1 1 a1 dX9_given_116 rfl rfl ?_
                refine J_iadd dX9_given_117 ?_
                refine J_iald 114 512 dX9_given_118 rfl (Nat.lt_of_lt_of_le (Nat.le_of_ble_eq_true rfl) hn) (fun x9 => ?_)
                exact J_iretP dX9_given_119 rfl rfl
              · refine J_tsOut 120 dX9_given_22 (ts_out [0, 1, 2, 3, 4, 5] (by decide) (by simp only [List.mem_cons, List.not_mem_nil, or_false, forall_eq_or_imp, forall_eq]; exact ⟨hs22_0, hs22_1, hs22_2, hs22_3, hs22_4, hs22_5⟩)) (by decide) ?_
                refine J_iconst (-1) dX9_given_120 (by decide) ?_
                exact J_iretP dX9_given_121 rfl rfl
  · refine J_iconst (-1) dX9_given_19 (by decide) ?_
    exact J_iretP dX9_given_20 rfl rfl
def b_X9_go_16 (F : Nat) (a1 : Int32) (t3 : Int32 × Mm) : Option ((Int32 × Mm) ⊕ (Mm)) :=
  if a1 ≤ t3.1 then (some (Sum.inr t3.2)) else ((f_X9_aMinute F t3.2 0).bind fun m6 => some (Sum.inl (t3.1 + 1, m6)))
def f_X9_go (F : Nat) (m : Mm) (a1 : Int32) : Option (Int32 × Mm) :=
  (f_X9_in a1.toInt64 1 120).bind fun x1 => if x1 = 0 then (some ((-1), m)) else ((iter F (b_X9_go_16 F a1) ((0, m) : Int32 × Mm)).bind (fun e4 : Mm => (f_X9_allOf F e4 0).bind fun x7 => some (x7, e4)))
set_option maxHeartbeats 4000000 in
set_option maxRecDepth 100000 in
theorem ct_X9_go (F : Nat) {n : Nat} (hn : 135 ≤ n) (P D : Nat) (T : Option Nat) (m : Mm) (a1 : Int32) : Ct yX9_go cX9_go 3 (some .int) 5 106 [.ref 113, .int a1] n n m (RF P D T) (rI (RF P D T) (f_X9_go F m a1)) := by
  refine Ct.ofI (own := RX9) (nm := "go") [(0, .ref 113), (1, .int a1)] (by decide) (Nat.le_of_ble_eq_true rfl) rfl rfl rfl ?_
  unfold f_X9_go
  refine J_iload_n 1 1 a1 dX9_go_0 rfl rfl ?_
  refine J_i2l dX9_go_1 ?_
  refine J_lconst 1 dX9_go_2 (by decide) ?_
  refine J_ldc2 120 dX9_go_3 kl_9_256 ?_
  refine J_callSP 3 [.long a1.toInt64, .long 1, .long 120] dX9_go_6 mv_X9_in mv_X9_ins lk_9_114 (ct_X9_in F hn P D T m a1.toInt64 1 120) rfl ⟨by decide, by decide⟩ (Nat.le_of_ble_eq_true rfl) (fun x1 => ?_)
  refine J_if_ne 14 dX9_go_9 (by decide) ?_ ?_
  · refine J_iconst 0 dX9_go_14 (by decide) ?_
    refine J_istore_n 2 [(2, .int 0), (0, .ref 113), (1, .int a1)] dX9_go_15 rfl (by decide) rfl ?_
    refine J_lv [1, 2, 0] rfl ?_
    refine J_loop (pc := 16) (fun t3 : Int32 × Mm => [(0, .ref 113), (1, .int a1), (2, .int t3.1)]) (fun t3 => t3.2) (fun _ => 32) (fun e4 => [(0, .ref 113)]) (fun _ => []) (fun e4 => e4) ?_ (fun t3 k1 hBt3 hXt3 => ?_) F ((0, m))
    · refine fun e4 => ?_
      refine J_aload_n 0 0 113 dX9_go_32 rfl rfl ?_
      refine J_iconst 0 dX9_go_33 (by decide) ?_
      refine J_callVP 113 9 1 [.int 0] dX9_go_34 mv_X9_allOf mv_X9_allOfv lk_9_202 (ct_X9_allOf F hn P D T e4 0) rfl rfl (by decide) rfl (Nat.lt_of_lt_of_le (Nat.le_of_ble_eq_true rfl) hn) ⟨by decide, by decide⟩ (Nat.le_of_ble_eq_true rfl) (fun x7 => ?_)
      exact J_iretI dX9_go_37 rfl rfl
    · unfold b_X9_go_16
      refine J_iload_n 2 2 t3.1 dX9_go_16 rfl rfl ?_
      refine J_iload_n 1 1 a1 dX9_go_17 rfl rfl ?_
      refine J_icmp_ge 32 dX9_go_18 (by decide) ?_ ?_
      · exact J_lv [0] rfl (hXt3 t3.2)
      · refine J_aload_n 0 0 113 dX9_go_21 rfl rfl ?_
        refine J_iconst 0 dX9_go_22 (by decide) ?_
        refine J_callVV 113 9 1 [.int 0] dX9_go_23 mv_X9_aMinute mv_X9_aMinutev lk_9_258 (ct_X9_aMinute F hn P D T t3.2 0) rfl rfl (by decide) rfl (Nat.lt_of_lt_of_le (Nat.le_of_ble_eq_true rfl) hn) ⟨by decide, by decide⟩ (Nat.le_of_ble_eq_true rfl) (fun m6 => ?_)
        refine J_iinc 2 2 [(2, .int (t3.1 + 1)), (0, .ref 113), (1, .int a1)] t3.1 (t3.1 + 1) dX9_go_26 rfl rfl (by decide) rfl ?_
        refine J_goto 16 dX9_go_29 (by decide) ?_
        exact J_lv [1, 2, 0] rfl (hBt3 (t3.1 + 1, m6))
  · refine J_iconst (-1) dX9_go_12 (by decide) ?_
    exact J_iretI dX9_go_13 rfl rfl
def f_X9_untilWith (F : Nat) (m : Mm) (a1 : Int32) (a2 : Int32) (a3 : Int32) : Option (Int32 × Mm) :=
  (f_X9_frees F m).bind fun m2 => (ald m2 114 512 71).bind fun x3 => (f_X9_tells m2 384 (x3 + a2) 0 a1 0).bind fun m5 => (f_X9_runs F m5 a3).bind fun m7 => (f_X9_untilSunk m7).bind fun x8 => some (x8, m7)
set_option maxHeartbeats 4000000 in
set_option maxRecDepth 100000 in
theorem ct_X9_untilWith (F : Nat) {n : Nat} (hn : 135 ≤ n) (P D : Nat) (T : Option Nat) (m : Mm) (a1 : Int32) (a2 : Int32) (a3 : Int32) : Ct yX9_untilWith cX9_untilWith 4 (some .int) 6 128 [.ref 113, .int a1, .int a2, .int a3] n n m (RF P D T) (rI (RF P D T) (f_X9_untilWith F m a1 a2 a3)) := by
  refine Ct.ofI (own := RX9) (nm := "untilWith") [(0, .ref 113), (1, .int a1), (2, .int a2), (3, .int a3)] (by decide) (Nat.le_of_ble_eq_true rfl) rfl rfl rfl ?_
  unfold f_X9_untilWith
  refine J_aload_n 0 0 113 dX9_untilWith_0 rfl rfl ?_
  refine J_callVV 113 9 0 [] dX9_untilWith_1 mv_X9_frees mv_X9_freesv lk_9_283 (ct_X9_frees F hn P D T m) rfl rfl (by decide) rfl (Nat.lt_of_lt_of_le (Nat.le_of_ble_eq_true rfl) hn) ⟨by decide, by decide⟩ (Nat.le_of_ble_eq_true rfl) (fun m2 => ?_)
  refine J_aload_n 0 0 113 dX9_untilWith_4 rfl rfl ?_
  refine J_sipush 384 dX9_untilWith_5 (by decide) ?_
  refine J_aload_n 0 0 113 dX9_untilWith_8 rfl rfl ?_
  refine J_getR 113 9 0 114 dX9_untilWith_9 fl_9_7 rfl rfl (Nat.lt_of_lt_of_le (Nat.le_of_ble_eq_true rfl) hn) rfl ?_
  refine J_bipush 71 dX9_untilWith_12 (by decide) ?_
  refine J_iald 114 512 dX9_untilWith_14 rfl (Nat.lt_of_lt_of_le (Nat.le_of_ble_eq_true rfl) hn) (fun x3 => ?_)
  refine J_iload_n 2 2 a2 dX9_untilWith_15 rfl rfl ?_
  refine J_iadd dX9_untilWith_16 ?_
  refine J_iconst 0 dX9_untilWith_17 (by decide) ?_
  refine J_iload_n 1 1 a1 dX9_untilWith_18 rfl rfl ?_
  refine J_iconst 0 dX9_untilWith_19 (by decide) ?_
  refine J_callVV 113 9 5 [.int 384, .int (x3 + a2), .int 0, .int a1, .int 0] dX9_untilWith_20 mv_X9_tells mv_X9_tellsv lk_9_270 (ct_X9_tells F hn P D T m2 384 (x3 + a2) 0 a1 0) rfl rfl (by decide) rfl (Nat.lt_of_lt_of_le (Nat.le_of_ble_eq_true rfl) hn) ⟨by decide, by decide⟩ (Nat.le_of_ble_eq_true rfl) (fun m5 => ?_)
  refine J_aload_n 0 0 113 dX9_untilWith_23 rfl rfl ?_
  refine J_iload_n 3 3 a3 dX9_untilWith_24 rfl rfl ?_
  refine J_callVV 113 9 1 [.int a3] dX9_untilWith_25 mv_X9_runs mv_X9_runsv lk_9_277 (ct_X9_runs F hn P D T m5 a3) rfl rfl (by decide) rfl (Nat.lt_of_lt_of_le (Nat.le_of_ble_eq_true rfl) hn) ⟨by decide, by decide⟩ (Nat.le_of_ble_eq_true rfl) (fun m7 => ?_)
  refine J_aload_n 0 0 113 dX9_untilWith_28 rfl rfl ?_
  refine J_callVP 113 9 0 [] dX9_untilWith_29 mv_X9_untilSunk mv_X9_untilSunkv lk_9_280 (ct_X9_untilSunk F hn P D T m7) rfl rfl (by decide) rfl (Nat.lt_of_lt_of_le (Nat.le_of_ble_eq_true rfl) hn) ⟨by decide, by decide⟩ (Nat.le_of_ble_eq_true rfl) (fun x8 => ?_)
  exact J_iretI dX9_untilWith_32 rfl rfl
def b_X9_helps_18 (F : Nat) (a1 : Int32) (t3 : Int32 × Int32 × Mm) : Option ((Int32 × Int32 × Mm) ⊕ (Int32 × Mm)) :=
  if (t3.2.2 113 4) ≤ t3.2.1 then (some (Sum.inr ((t3.1, t3.2.2)))) else ((f_X9_canShut t3.2.2 t3.2.1).bind fun x5 => (if x5 = 0 then (some (0, t3.2.2)) else (bind2 (f_X9_untilWith F t3.2.2 t3.2.1 0 a1) fun x8 m9 => (f_X9_longer x8).bind fun x10 => bind2 (f_X9_freeFor F m9 a1) fun x12 m13 => (f_X9_longer x12).bind fun x14 => if x10 ≤ x14 then (some (0, m13)) else (some ((1 : Int32) <<< (t3.2.1 &&& 31), m13))) : Option (Int32 × Mm)).bind fun y7 => letv (t3.1 ||| y7.1) fun x16 => some (Sum.inl (x16, t3.2.1 + 1, y7.2)))
def f_X9_helps (F : Nat) (m : Mm) (a1 : Int32) : Option (Int32 × Mm) :=
  (f_X9_in a1.toInt64 1 60).bind fun x1 => if x1 = 0 then (some ((-1), m)) else ((iter F (b_X9_helps_18 F a1) ((0, 0, m) : Int32 × Int32 × Mm)).bind (fun e4 : Int32 × Mm => some (e4.1, e4.2)))
set_option maxHeartbeats 4000000 in
set_option maxRecDepth 100000 in
theorem ct_X9_helps (F : Nat) {n : Nat} (hn : 135 ≤ n) (P D : Nat) (T : Option Nat) (m : Mm) (a1 : Int32) : Ct yX9_helps cX9_helps 4 (some .int) 7 151 [.ref 113, .int a1] n n m (RF P D T) (rI (RF P D T) (f_X9_helps F m a1)) := by
  refine Ct.ofI (own := RX9) (nm := "helps") [(0, .ref 113), (1, .int a1)] (by decide) (Nat.le_of_ble_eq_true rfl) rfl rfl rfl ?_
  unfold f_X9_helps
  refine J_iload_n 1 1 a1 dX9_helps_0 rfl rfl ?_
  refine J_i2l dX9_helps_1 ?_
  refine J_lconst 1 dX9_helps_2 (by decide) ?_
  refine J_ldc2 60 dX9_helps_3 kl_9_310 ?_
  refine J_callSP 3 [.long a1.toInt64, .long 1, .long 60] dX9_helps_6 mv_X9_in mv_X9_ins lk_9_114 (ct_X9_in F hn P D T m a1.toInt64 1 60) rfl ⟨by decide, by decide⟩ (Nat.le_of_ble_eq_true rfl) (fun x1 => ?_)
  refine J_if_ne 14 dX9_helps_9 (by decide) ?_ ?_
  · refine J_iconst 0 dX9_helps_14 (by decide) ?_
    refine J_istore_n 2 [(2, .int 0), (0, .ref 113), (1, .int a1)] dX9_helps_15 rfl (by decide) rfl ?_
    refine J_iconst 0 dX9_helps_16 (by decide) ?_
    refine J_istore_n 3 [(3, .int 0), (2, .int 0), (0, .ref 113), (1, .int a1)] dX9_helps_17 rfl (by decide) rfl ?_
    refine J_lv [2, 3, 1, 0] rfl ?_
    refine J_loop (pc := 18) (fun t3 : Int32 × Int32 × Mm => [(0, .ref 113), (1, .int a1), (2, .int t3.1), (3, .int t3.2.1)]) (fun t3 => t3.2.2) (fun _ => 71) (fun e4 => [(2, .int e4.1)]) (fun _ => []) (fun e4 => e4.2) ?_ (fun t3 k1 hBt3 hXt3 => ?_) F ((0, 0, m))
    · refine fun e4 => ?_
      refine J_iload_n 2 0 e4.1 dX9_helps_71 rfl rfl ?_
      exact J_iretI dX9_helps_72 rfl rfl
    · unfold b_X9_helps_18
      refine J_iload_n 3 3 t3.2.1 dX9_helps_18 rfl rfl ?_
      refine J_aload_n 0 0 113 dX9_helps_19 rfl rfl ?_
      refine J_getI 113 9 4 dX9_helps_20 fl_9_96 rfl rfl (Nat.lt_of_lt_of_le (Nat.le_of_ble_eq_true rfl) hn) ?_
      refine J_icmp_ge 71 dX9_helps_23 (by decide) ?_ ?_
      · exact J_lv [2] rfl (hXt3 ((t3.1, t3.2.2)))
      · refine J_iload_n 2 2 t3.1 dX9_helps_26 rfl rfl ?_
        refine J_aload_n 0 0 113 dX9_helps_27 rfl rfl ?_
        refine J_iload_n 3 3 t3.2.1 dX9_helps_28 rfl rfl ?_
        refine J_callVP 113 9 1 [.int t3.2.1] dX9_helps_29 mv_X9_canShut mv_X9_canShutv lk_9_318 (ct_X9_canShut F hn P D T t3.2.2 t3.2.1) rfl rfl (by decide) rfl (Nat.lt_of_lt_of_le (Nat.le_of_ble_eq_true rfl) hn) ⟨by decide, by decide⟩ (Nat.le_of_ble_eq_true rfl) (fun x5 => ?_)
        refine J_seqJ 63 (fun y7 : Int32 × Mm => [(0, .ref 113), (1, .int a1), (3, .int t3.2.1)]) (fun y7 => [.int y7.1, .int t3.1]) (fun y7 => y7.2) (fun y7 => ?_) (fun k1 hEy7 => ?_)
        · refine J_ior dX9_helps_63 ?_
          refine J_let (fun x16 => ?_)
          refine J_istore_n 2 [(2, .int x16), (0, .ref 113), (1, .int a1), (3, .int t3.2.1)] dX9_helps_64 rfl (by decide) rfl ?_
          refine J_iinc 3 3 [(3, .int (t3.2.1 + 1)), (2, .int x16), (0, .ref 113), (1, .int a1)] t3.2.1 (t3.2.1 + 1) dX9_helps_65 rfl rfl (by decide) rfl ?_
          refine J_goto 18 dX9_helps_68 (by decide) ?_
          exact J_lv [2, 3, 1, 0] rfl (hBt3 (x16, t3.2.1 + 1, y7.2))
        · refine J_if_eq 62 dX9_helps_32 (by decide) ?_ ?_
          · refine J_iconst 0 dX9_helps_62 (by decide) ?_
            exact J_lv [0, 1, 3] rfl (hEy7 (0, t3.2.2))
          · refine J_aload_n 0 0 113 dX9_helps_35 rfl rfl ?_
            refine J_iload_n 3 3 t3.2.1 dX9_helps_36 rfl rfl ?_
            refine J_iconst 0 dX9_helps_37 (by decide) ?_
            refine J_iload_n 1 1 a1 dX9_helps_38 rfl rfl ?_
            refine J_callVI 113 9 3 [.int t3.2.1, .int 0, .int a1] dX9_helps_39 mv_X9_untilWith mv_X9_untilWithv lk_9_321 (ct_X9_untilWith F hn P D T t3.2.2 t3.2.1 0 a1) rfl rfl (by decide) rfl (Nat.lt_of_lt_of_le (Nat.le_of_ble_eq_true rfl) hn) ⟨by decide, by decide⟩ (Nat.le_of_ble_eq_true rfl) (fun x8 m9 => ?_)
            refine J_callSP 1 [.int x8] dX9_helps_42 mv_X9_longer mv_X9_longers lk_9_302 (ct_X9_longer F hn P D T m9 x8) rfl ⟨by decide, by decide⟩ (Nat.le_of_ble_eq_true rfl) (fun x10 => ?_)
            refine J_aload_n 0 0 113 dX9_helps_45 rfl rfl ?_
            refine J_iload_n 1 1 a1 dX9_helps_46 rfl rfl ?_
            refine J_callVI 113 9 1 [.int a1] dX9_helps_47 mv_X9_freeFor mv_X9_freeForv lk_9_286 (ct_X9_freeFor F hn P D T m9 a1) rfl rfl (by decide) rfl (Nat.lt_of_lt_of_le (Nat.le_of_ble_eq_true rfl) hn) ⟨by decide, by decide⟩ (Nat.le_of_ble_eq_true rfl) (fun x12 m13 => ?_)
            refine J_callSP 1 [.int x12] dX9_helps_50 mv_X9_longer mv_X9_longers lk_9_302 (ct_X9_longer F hn P D T m13 x12) rfl ⟨by decide, by decide⟩ (Nat.le_of_ble_eq_true rfl) (fun x14 => ?_)
            refine J_icmp_le 62 dX9_helps_53 (by decide) ?_ ?_
            · refine J_iconst 0 dX9_helps_62 (by decide) ?_
              exact J_lv [0, 1, 3] rfl (hEy7 (0, m13))
            · refine J_iconst 1 dX9_helps_56 (by decide) ?_
              refine J_iload_n 3 3 t3.2.1 dX9_helps_57 rfl rfl ?_
              refine J_ishl dX9_helps_58 ?_
              refine J_goto 63 dX9_helps_59 (by decide) ?_
              exact J_lv [0, 1, 3] rfl (hEy7 ((1 : Int32) <<< (t3.2.1 &&& 31), m13))
  · refine J_iconst (-1) dX9_helps_12 (by decide) ?_
    exact J_iretI dX9_helps_13 rfl rfl
def f_X9_hold (m : Mm) (a1 : Int32) (a2 : Int32) : Option (Int32) :=
  (f_X9_isHold m a1).bind fun x1 => if x1 = 0 then (some (-1)) else ((f_X9_in a2.toInt64 0 5).bind fun x3 => if x3 = 0 then (some (-1)) else (if (3 : Int32) ≤ a2 then (if a2 = (3 : Int32) then ((ald m 114 512 ((0 : Int32) + a1)).bind fun x8 => some x8) else (if a2 = (4 : Int32) then ((f_X9_heightOf m 0 a1).bind fun x6 => some x6) else ((ald m 114 512 ((8 : Int32) + a1)).bind fun x5 => some x5))) else ((ald m 116 32 (((4 : Int32) * a1) + a2)).bind fun x9 => some x9)))
set_option maxHeartbeats 4000000 in
set_option maxRecDepth 100000 in
theorem ct_X9_hold (F : Nat) {n : Nat} (hn : 135 ≤ n) (P D : Nat) (T : Option Nat) (m : Mm) (a1 : Int32) (a2 : Int32) : Ct yX9_hold cX9_hold 3 (some .int) 2 46 [.ref 113, .int a1, .int a2] n n m (RF P D T) (rP m (RF P D T) (f_X9_hold m a1 a2)) := by
  refine Ct.ofP (own := RX9) (nm := "hold") [(0, .ref 113), (1, .int a1), (2, .int a2)] (by decide) (Nat.le_of_ble_eq_true rfl) rfl rfl rfl ?_
  unfold f_X9_hold
  refine J_aload_n 0 0 113 dX9_hold_0 rfl rfl ?_
  refine J_iload_n 1 1 a1 dX9_hold_1 rfl rfl ?_
  refine J_callVP 113 9 1 [.int a1] dX9_hold_2 mv_X9_isHold mv_X9_isHoldv lk_9_220 (ct_X9_isHold F hn P D T m a1) rfl rfl (by decide) rfl (Nat.lt_of_lt_of_le (Nat.le_of_ble_eq_true rfl) hn) ⟨by decide, by decide⟩ (Nat.le_of_ble_eq_true rfl) (fun x1 => ?_)
  refine J_if_eq 20 dX9_hold_5 (by decide) ?_ ?_
  · refine J_iconst (-1) dX9_hold_20 (by decide) ?_
    exact J_iretP dX9_hold_21 rfl rfl
  · refine J_iload_n 2 2 a2 dX9_hold_8 rfl rfl ?_
    refine J_i2l dX9_hold_9 ?_
    refine J_lconst 0 dX9_hold_10 (by decide) ?_
    refine J_ldc2 5 dX9_hold_11 kl_9_224 ?_
    refine J_callSP 3 [.long a2.toInt64, .long 0, .long 5] dX9_hold_14 mv_X9_in mv_X9_ins lk_9_114 (ct_X9_in F hn P D T m a2.toInt64 0 5) rfl ⟨by decide, by decide⟩ (Nat.le_of_ble_eq_true rfl) (fun x3 => ?_)
    refine J_if_ne 22 dX9_hold_17 (by decide) ?_ ?_
    · refine J_iload_n 2 2 a2 dX9_hold_22 rfl rfl ?_
      refine J_iconst 3 dX9_hold_23 (by decide) ?_
      refine J_icmp_ge 40 dX9_hold_24 (by decide) ?_ ?_
      · refine J_iload_n 2 2 a2 dX9_hold_40 rfl rfl ?_
        refine J_iconst 3 dX9_hold_41 (by decide) ?_
        refine J_icmp_ne 56 dX9_hold_42 (by decide) ?_ ?_
        · refine J_iload_n 2 2 a2 dX9_hold_56 rfl rfl ?_
          refine J_iconst 4 dX9_hold_57 (by decide) ?_
          refine J_icmp_ne 70 dX9_hold_58 (by decide) ?_ ?_
          · refine J_aload_n 0 0 113 dX9_hold_70 rfl rfl ?_
            refine J_getR 113 9 0 114 dX9_hold_71 fl_9_7 rfl rfl (Nat.lt_of_lt_of_le (Nat.le_of_ble_eq_true rfl) hn) rfl ?_
            refine J_bipush 8 dX9_hold_74 (by decide) ?_
            refine J_iload_n 1 1 a1 dX9_hold_76 rfl rfl ?_
            refine J_iadd dX9_hold_77 ?_
            refine J_iald 114 512 dX9_hold_78 rfl (Nat.lt_of_lt_of_le (Nat.le_of_ble_eq_true rfl) hn) (fun x5 => ?_)
            exact J_iretP dX9_hold_79 rfl rfl
          · refine J_aload_n 0 0 113 dX9_hold_61 rfl rfl ?_
            refine J_iconst 0 dX9_hold_62 (by decide) ?_
            refine J_iload_n 1 1 a1 dX9_hold_63 rfl rfl ?_
            refine J_callVP 113 9 2 [.int 0, .int a1] dX9_hold_64 mv_X9_heightOf mv_X9_heightOfv lk_9_214 (ct_X9_heightOf F hn P D T m 0 a1) rfl rfl (by decide) rfl (Nat.lt_of_lt_of_le (Nat.le_of_ble_eq_true rfl) hn) ⟨by decide, by decide⟩ (Nat.le_of_ble_eq_true rfl) (fun x6 => ?_)
            refine J_goto 79 dX9_hold_67 (by decide) ?_
            exact J_iretP dX9_hold_79 rfl rfl
        · refine J_aload_n 0 0 113 dX9_hold_45 rfl rfl ?_
          refine J_getR 113 9 0 114 dX9_hold_46 fl_9_7 rfl rfl (Nat.lt_of_lt_of_le (Nat.le_of_ble_eq_true rfl) hn) rfl ?_
          refine J_iconst 0 dX9_hold_49 (by decide) ?_
          refine J_iload_n 1 1 a1 dX9_hold_50 rfl rfl ?_
          refine J_iadd dX9_hold_51 ?_
          refine J_iald 114 512 dX9_hold_52 rfl (Nat.lt_of_lt_of_le (Nat.le_of_ble_eq_true rfl) hn) (fun x8 => ?_)
          refine J_goto 79 dX9_hold_53 (by decide) ?_
          exact J_iretP dX9_hold_79 rfl rfl
      · refine J_aload_n 0 0 113 dX9_hold_27 rfl rfl ?_
        refine J_getR 113 9 3 116 dX9_hold_28 fl_9_17 rfl rfl (Nat.lt_of_lt_of_le (Nat.le_of_ble_eq_true rfl) hn) rfl ?_
        refine J_iconst 4 dX9_hold_31 (by decide) ?_
        refine J_iload_n 1 1 a1 dX9_hold_32 rfl rfl ?_
        refine J_imul dX9_hold_33 ?_
        refine J_iload_n 2 2 a2 dX9_hold_34 rfl rfl ?_
        refine J_iadd dX9_hold_35 ?_
        refine J_iald 116 32 dX9_hold_36 rfl (Nat.lt_of_lt_of_le (Nat.le_of_ble_eq_true rfl) hn) (fun x9 => ?_)
        refine J_goto 79 dX9_hold_37 (by decide) ?_
        exact J_iretP dX9_hold_79 rfl rfl
    · refine J_iconst (-1) dX9_hold_20 (by decide) ?_
      exact J_iretP dX9_hold_21 rfl rfl
def f_X9_hole (m : Mm) (a1 : Int32) (a2 : Int32) : Option (Int32) :=
  (f_X9_in a1.toInt64 0 (((m 113 6) - (1 : Int32)).toInt64)).bind fun x1 => if x1 = 0 then (some (-1)) else ((f_X9_in a2.toInt64 0 4).bind fun x3 => if x3 = 0 then (some (-1)) else (if (3 : Int32) ≤ a2 then (if a2 = (3 : Int32) then ((ald m 114 512 ((36 : Int32) + a1)).bind fun x7 => some x7) else ((f_X9_comesIn m 0 a1).bind fun x5 => some x5)) else ((ald m 118 12 (((3 : Int32) * a1) + a2)).bind fun x8 => some x8)))
set_option maxHeartbeats 4000000 in
set_option maxRecDepth 100000 in
theorem ct_X9_hole (F : Nat) {n : Nat} (hn : 135 ≤ n) (P D : Nat) (T : Option Nat) (m : Mm) (a1 : Int32) (a2 : Int32) : Ct yX9_hole cX9_hole 3 (some .int) 2 47 [.ref 113, .int a1, .int a2] n n m (RF P D T) (rP m (RF P D T) (f_X9_hole m a1 a2)) := by
  refine Ct.ofP (own := RX9) (nm := "hole") [(0, .ref 113), (1, .int a1), (2, .int a2)] (by decide) (Nat.le_of_ble_eq_true rfl) rfl rfl rfl ?_
  unfold f_X9_hole
  refine J_iload_n 1 1 a1 dX9_hole_0 rfl rfl ?_
  refine J_i2l dX9_hole_1 ?_
  refine J_lconst 0 dX9_hole_2 (by decide) ?_
  refine J_aload_n 0 0 113 dX9_hole_3 rfl rfl ?_
  refine J_getI 113 9 6 dX9_hole_4 fl_9_99 rfl rfl (Nat.lt_of_lt_of_le (Nat.le_of_ble_eq_true rfl) hn) ?_
  refine J_iconst 1 dX9_hole_7 (by decide) ?_
  refine J_isub dX9_hole_8 ?_
  refine J_i2l dX9_hole_9 ?_
  refine J_callSP 3 [.long a1.toInt64, .long 0, .long (((m 113 6) - (1 : Int32)).toInt64)] dX9_hole_10 mv_X9_in mv_X9_ins lk_9_114 (ct_X9_in F hn P D T m a1.toInt64 0 (((m 113 6) - (1 : Int32)).toInt64)) rfl ⟨by decide, by decide⟩ (Nat.le_of_ble_eq_true rfl) (fun x1 => ?_)
  refine J_if_eq 28 dX9_hole_13 (by decide) ?_ ?_
  · refine J_iconst (-1) dX9_hole_28 (by decide) ?_
    exact J_iretP dX9_hole_29 rfl rfl
  · refine J_iload_n 2 2 a2 dX9_hole_16 rfl rfl ?_
    refine J_i2l dX9_hole_17 ?_
    refine J_lconst 0 dX9_hole_18 (by decide) ?_
    refine J_ldc2 4 dX9_hole_19 kl_9_178 ?_
    refine J_callSP 3 [.long a2.toInt64, .long 0, .long 4] dX9_hole_22 mv_X9_in mv_X9_ins lk_9_114 (ct_X9_in F hn P D T m a2.toInt64 0 4) rfl ⟨by decide, by decide⟩ (Nat.le_of_ble_eq_true rfl) (fun x3 => ?_)
    refine J_if_ne 30 dX9_hole_25 (by decide) ?_ ?_
    · refine J_iload_n 2 2 a2 dX9_hole_30 rfl rfl ?_
      refine J_iconst 3 dX9_hole_31 (by decide) ?_
      refine J_icmp_ge 48 dX9_hole_32 (by decide) ?_ ?_
      · refine J_iload_n 2 2 a2 dX9_hole_48 rfl rfl ?_
        refine J_iconst 3 dX9_hole_49 (by decide) ?_
        refine J_icmp_ne 65 dX9_hole_50 (by decide) ?_ ?_
        · refine J_aload_n 0 0 113 dX9_hole_65 rfl rfl ?_
          refine J_iconst 0 dX9_hole_66 (by decide) ?_
          refine J_iload_n 1 1 a1 dX9_hole_67 rfl rfl ?_
          refine J_callVP 113 9 2 [.int 0, .int a1] dX9_hole_68 mv_X9_comesIn mv_X9_comesInv lk_9_231 (ct_X9_comesIn F hn P D T m 0 a1) rfl rfl (by decide) rfl (Nat.lt_of_lt_of_le (Nat.le_of_ble_eq_true rfl) hn) ⟨by decide, by decide⟩ (Nat.le_of_ble_eq_true rfl) (fun x5 => ?_)
          exact J_iretP dX9_hole_71 rfl rfl
        · refine J_aload_n 0 0 113 dX9_hole_53 rfl rfl ?_
          refine J_getR 113 9 0 114 dX9_hole_54 fl_9_7 rfl rfl (Nat.lt_of_lt_of_le (Nat.le_of_ble_eq_true rfl) hn) rfl ?_
          refine J_bipush 36 dX9_hole_57 (by decide) ?_
          refine J_iload_n 1 1 a1 dX9_hole_59 rfl rfl ?_
          refine J_iadd dX9_hole_60 ?_
          refine J_iald 114 512 dX9_hole_61 rfl (Nat.lt_of_lt_of_le (Nat.le_of_ble_eq_true rfl) hn) (fun x7 => ?_)
          refine J_goto 71 dX9_hole_62 (by decide) ?_
          exact J_iretP dX9_hole_71 rfl rfl
      · refine J_aload_n 0 0 113 dX9_hole_35 rfl rfl ?_
        refine J_getR 113 9 7 118 dX9_hole_36 fl_9_23 rfl rfl (Nat.lt_of_lt_of_le (Nat.le_of_ble_eq_true rfl) hn) rfl ?_
        refine J_iconst 3 dX9_hole_39 (by decide) ?_
        refine J_iload_n 1 1 a1 dX9_hole_40 rfl rfl ?_
        refine J_imul dX9_hole_41 ?_
        refine J_iload_n 2 2 a2 dX9_hole_42 rfl rfl ?_
        refine J_iadd dX9_hole_43 ?_
        refine J_iald 118 12 dX9_hole_44 rfl (Nat.lt_of_lt_of_le (Nat.le_of_ble_eq_true rfl) hn) (fun x8 => ?_)
        refine J_goto 71 dX9_hole_45 (by decide) ?_
        exact J_iretP dX9_hole_71 rfl rfl
    · refine J_iconst (-1) dX9_hole_28 (by decide) ?_
      exact J_iretP dX9_hole_29 rfl rfl

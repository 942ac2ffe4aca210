theorem fl_9_20 : FL RX9 20 9 5 := ⟨by decide, by decide, tb 1027 (by decide +kernel) rfl⟩
theorem fl_9_23 : FL RX9 23 9 7 := ⟨by decide, by decide, tb 1029 (by decide +kernel) rfl⟩
theorem fl_9_29 : FL RX9 29 9 10 := ⟨by decide, by decide, tb 1032 (by decide +kernel) rfl⟩
theorem fl_9_7 : FL RX9 7 9 0 := ⟨by decide, by decide, tb 1022 (by decide +kernel) rfl⟩
theorem fl_9_93 : FL RX9 93 9 2 := ⟨by decide, by decide, tb 1024 (by decide +kernel) rfl⟩
theorem lk_9_234 : Cond.methodLink RX9 234 yX9_takes ∈ TBg := tb 1302 (by decide +kernel) rfl
theorem lk_9_237 : Cond.methodLink RX9 237 yX9_ends ∈ TBg := tb 1290 (by decide +kernel) rfl
theorem lk_9_240 : Cond.methodLink RX9 240 yX9_canBegin ∈ TBg := tb 1294 (by decide +kernel) rfl
theorem lk_9_244 : Cond.methodLink RX9 244 yX9_begins ∈ TBg := tb 1298 (by decide +kernel) rfl
theorem mv_X9_begins : MV yX9_begins cX9_begins 5 none 2 := ⟨tb 1301 (by decide +kernel) rfl, tb 13 (by decide +kernel) rfl, by decide +kernel⟩
theorem mv_X9_beginsv : Cond.instanceMethod yX9_begins ∈ TBg ∧ Cond.selects yX9_begins.cls yX9_begins yX9_begins ∈ TBg := ⟨tb 1300 (by decide +kernel) rfl, tbP (k := 42) 72 (by decide +kernel) rfl⟩
theorem mv_X9_canBegin : MV yX9_canBegin cX9_canBegin 5 (some .boolean) 2 := ⟨tb 1297 (by decide +kernel) rfl, tb 13 (by decide +kernel) rfl, by decide +kernel⟩
theorem mv_X9_canBeginv : Cond.instanceMethod yX9_canBegin ∈ TBg ∧ Cond.selects yX9_canBegin.cls yX9_canBegin yX9_canBegin ∈ TBg := ⟨tb 1296 (by decide +kernel) rfl, tbP (k := 42) 71 (by decide +kernel) rfl⟩
theorem mv_X9_ends : MV yX9_ends cX9_ends 4 none 2 := ⟨tb 1293 (by decide +kernel) rfl, tb 13 (by decide +kernel) rfl, by decide +kernel⟩
theorem mv_X9_endsv : Cond.instanceMethod yX9_ends ∈ TBg ∧ Cond.selects yX9_ends.cls yX9_ends yX9_ends ∈ TBg := ⟨tb 1292 (by decide +kernel) rfl, tbP (k := 42) 70 (by decide +kernel) rfl⟩
theorem mv_X9_takes : MV yX9_takes cX9_takes 5 (some .int) 2 := ⟨tb 1305 (by decide +kernel) rfl, tb 13 (by decide +kernel) rfl, by decide +kernel⟩
theorem mv_X9_takesv : Cond.instanceMethod yX9_takes ∈ TBg ∧ Cond.selects yX9_takes.cls yX9_takes yX9_takes ∈ TBg := ⟨tb 1304 (by decide +kernel) rfl, tbP (k := 42) 73 (by decide +kernel) rfl⟩
theorem dX9_takes_0 : decode cX9_takes 0 = .ok (.aload_n 0, 1) := by decide +kernel
theorem dX9_takes_1 : decode cX9_takes 1 = .ok (.getfield 7, 3) := by decide +kernel
theorem dX9_takes_4 : decode cX9_takes 4 = .ok (.iload_n 1, 1) := by decide +kernel
theorem dX9_takes_5 : decode cX9_takes 5 = .ok (.bipush 89, 2) := by decide +kernel
theorem dX9_takes_7 : decode cX9_takes 7 = .ok (.iadd, 1) := by decide +kernel
theorem dX9_takes_8 : decode cX9_takes 8 = .ok (.iload_n 2, 1) := by decide +kernel
theorem dX9_takes_9 : decode cX9_takes 9 = .ok (.iadd, 1) := by decide +kernel
theorem dX9_takes_10 : decode cX9_takes 10 = .ok (.iaload, 1) := by decide +kernel
theorem dX9_takes_11 : decode cX9_takes 11 = .ok (.istore_n 3, 1) := by decide +kernel
theorem dX9_takes_12 : decode cX9_takes 12 = .ok (.aload_n 0, 1) := by decide +kernel
theorem dX9_takes_13 : decode cX9_takes 13 = .ok (.getfield 7, 3) := by decide +kernel
theorem dX9_takes_16 : decode cX9_takes 16 = .ok (.iload_n 1, 1) := by decide +kernel
theorem dX9_takes_17 : decode cX9_takes 17 = .ok (.bipush 101, 2) := by decide +kernel
theorem dX9_takes_19 : decode cX9_takes 19 = .ok (.iadd, 1) := by decide +kernel
theorem dX9_takes_20 : decode cX9_takes 20 = .ok (.iload_n 2, 1) := by decide +kernel
theorem dX9_takes_21 : decode cX9_takes 21 = .ok (.iadd, 1) := by decide +kernel
theorem dX9_takes_22 : decode cX9_takes 22 = .ok (.iaload, 1) := by decide +kernel
theorem dX9_takes_23 : decode cX9_takes 23 = .ok (.istore 4, 2) := by decide +kernel
theorem dX9_takes_25 : decode cX9_takes 25 = .ok (.iload_n 3, 1) := by decide +kernel
theorem dX9_takes_26 : decode cX9_takes 26 = .ok (.iconst 2, 1) := by decide +kernel
theorem dX9_takes_27 : decode cX9_takes 27 = .ok (.if_icmp .ge 18, 3) := by decide +kernel
theorem dX9_takes_30 : decode cX9_takes 30 = .ok (.aload_n 0, 1) := by decide +kernel
theorem dX9_takes_31 : decode cX9_takes 31 = .ok (.getfield 20, 3) := by decide +kernel
theorem dX9_takes_34 : decode cX9_takes 34 = .ok (.bipush 6, 2) := by decide +kernel
theorem dX9_takes_36 : decode cX9_takes 36 = .ok (.iload 4, 2) := by decide +kernel
theorem dX9_takes_38 : decode cX9_takes 38 = .ok (.imul, 1) := by decide +kernel
theorem dX9_takes_39 : decode cX9_takes 39 = .ok (.iconst 4, 1) := by decide +kernel
theorem dX9_takes_40 : decode cX9_takes 40 = .ok (.iadd, 1) := by decide +kernel
theorem dX9_takes_41 : decode cX9_takes 41 = .ok (.iaload, 1) := by decide +kernel
theorem dX9_takes_42 : decode cX9_takes 42 = .ok (.goto 23, 3) := by decide +kernel
theorem dX9_takes_45 : decode cX9_takes 45 = .ok (.iload_n 3, 1) := by decide +kernel
theorem dX9_takes_46 : decode cX9_takes 46 = .ok (.iconst 2, 1) := by decide +kernel
theorem dX9_takes_47 : decode cX9_takes 47 = .ok (.if_icmp .ne 17, 3) := by decide +kernel
theorem dX9_takes_50 : decode cX9_takes 50 = .ok (.aload_n 0, 1) := by decide +kernel
theorem dX9_takes_51 : decode cX9_takes 51 = .ok (.getfield 23, 3) := by decide +kernel
theorem dX9_takes_54 : decode cX9_takes 54 = .ok (.iconst 3, 1) := by decide +kernel
theorem dX9_takes_55 : decode cX9_takes 55 = .ok (.iload 4, 2) := by decide +kernel
theorem dX9_takes_57 : decode cX9_takes 57 = .ok (.imul, 1) := by decide +kernel
theorem dX9_takes_58 : decode cX9_takes 58 = .ok (.iconst 2, 1) := by decide +kernel
theorem dX9_takes_59 : decode cX9_takes 59 = .ok (.iadd, 1) := by decide +kernel
theorem dX9_takes_60 : decode cX9_takes 60 = .ok (.iaload, 1) := by decide +kernel
theorem dX9_takes_61 : decode cX9_takes 61 = .ok (.goto 4, 3) := by decide +kernel
theorem dX9_takes_64 : decode cX9_takes 64 = .ok (.iconst 1, 1) := by decide +kernel
theorem dX9_takes_65 : decode cX9_takes 65 = .ok (.ireturn, 1) := by decide +kernel
theorem dX9_begins_0 : decode cX9_begins 0 = .ok (.aload_n 0, 1) := by decide +kernel
theorem dX9_begins_1 : decode cX9_begins 1 = .ok (.getfield 7, 3) := by decide +kernel
theorem dX9_begins_4 : decode cX9_begins 4 = .ok (.iload_n 1, 1) := by decide +kernel
theorem dX9_begins_5 : decode cX9_begins 5 = .ok (.bipush 89, 2) := by decide +kernel
theorem dX9_begins_7 : decode cX9_begins 7 = .ok (.iadd, 1) := by decide +kernel
theorem dX9_begins_8 : decode cX9_begins 8 = .ok (.iload_n 2, 1) := by decide +kernel
theorem dX9_begins_9 : decode cX9_begins 9 = .ok (.iadd, 1) := by decide +kernel
theorem dX9_begins_10 : decode cX9_begins 10 = .ok (.iaload, 1) := by decide +kernel
theorem dX9_begins_11 : decode cX9_begins 11 = .ok (.istore_n 3, 1) := by decide +kernel
theorem dX9_begins_12 : decode cX9_begins 12 = .ok (.aload_n 0, 1) := by decide +kernel
theorem dX9_begins_13 : decode cX9_begins 13 = .ok (.getfield 7, 3) := by decide +kernel
theorem dX9_begins_16 : decode cX9_begins 16 = .ok (.iload_n 1, 1) := by decide +kernel
theorem dX9_begins_17 : decode cX9_begins 17 = .ok (.bipush 101, 2) := by decide +kernel
theorem dX9_begins_19 : decode cX9_begins 19 = .ok (.iadd, 1) := by decide +kernel
theorem dX9_begins_20 : decode cX9_begins 20 = .ok (.iload_n 2, 1) := by decide +kernel
theorem dX9_begins_21 : decode cX9_begins 21 = .ok (.iadd, 1) := by decide +kernel
theorem dX9_begins_22 : decode cX9_begins 22 = .ok (.iaload, 1) := by decide +kernel
theorem dX9_begins_23 : decode cX9_begins 23 = .ok (.istore 4, 2) := by decide +kernel
theorem dX9_begins_25 : decode cX9_begins 25 = .ok (.iload_n 3, 1) := by decide +kernel
theorem dX9_begins_26 : decode cX9_begins 26 = .ok (.iconst 2, 1) := by decide +kernel
theorem dX9_begins_27 : decode cX9_begins 27 = .ok (.if_icmp .ge 19, 3) := by decide +kernel
theorem dX9_begins_30 : decode cX9_begins 30 = .ok (.aload_n 0, 1) := by decide +kernel
theorem dX9_begins_31 : decode cX9_begins 31 = .ok (.getfield 7, 3) := by decide +kernel
theorem dX9_begins_34 : decode cX9_begins 34 = .ok (.iload_n 1, 1) := by decide +kernel
theorem dX9_begins_35 : decode cX9_begins 35 = .ok (.bipush 26, 2) := by decide +kernel
theorem dX9_begins_37 : decode cX9_begins 37 = .ok (.iadd, 1) := by decide +kernel
theorem dX9_begins_38 : decode cX9_begins 38 = .ok (.iload 4, 2) := by decide +kernel
theorem dX9_begins_40 : decode cX9_begins 40 = .ok (.iadd, 1) := by decide +kernel
theorem dX9_begins_41 : decode cX9_begins 41 = .ok (.iconst 1, 1) := by decide +kernel
theorem dX9_begins_42 : decode cX9_begins 42 = .ok (.iastore, 1) := by decide +kernel
theorem dX9_begins_43 : decode cX9_begins 43 = .ok (.goto 21, 3) := by decide +kernel
theorem dX9_begins_46 : decode cX9_begins 46 = .ok (.iload_n 3, 1) := by decide +kernel
theorem dX9_begins_47 : decode cX9_begins 47 = .ok (.iconst 2, 1) := by decide +kernel
theorem dX9_begins_48 : decode cX9_begins 48 = .ok (.if_icmp .ne 16, 3) := by decide +kernel
theorem dX9_begins_51 : decode cX9_begins 51 = .ok (.aload_n 0, 1) := by decide +kernel
theorem dX9_begins_52 : decode cX9_begins 52 = .ok (.getfield 7, 3) := by decide +kernel
theorem dX9_begins_55 : decode cX9_begins 55 = .ok (.iload_n 1, 1) := by decide +kernel
theorem dX9_begins_56 : decode cX9_begins 56 = .ok (.bipush 40, 2) := by decide +kernel
theorem dX9_begins_58 : decode cX9_begins 58 = .ok (.iadd, 1) := by decide +kernel
theorem dX9_begins_59 : decode cX9_begins 59 = .ok (.iload 4, 2) := by decide +kernel
theorem dX9_begins_61 : decode cX9_begins 61 = .ok (.iadd, 1) := by decide +kernel
theorem dX9_begins_62 : decode cX9_begins 62 = .ok (.iconst 1, 1) := by decide +kernel
theorem dX9_begins_63 : decode cX9_begins 63 = .ok (.iastore, 1) := by decide +kernel
theorem dX9_begins_64 : decode cX9_begins 64 = .ok (.aload_n 0, 1) := by decide +kernel
theorem dX9_begins_65 : decode cX9_begins 65 = .ok (.getfield 7, 3) := by decide +kernel
theorem dX9_begins_68 : decode cX9_begins 68 = .ok (.iload_n 1, 1) := by decide +kernel
theorem dX9_begins_69 : decode cX9_begins 69 = .ok (.bipush 47, 2) := by decide +kernel
theorem dX9_begins_71 : decode cX9_begins 71 = .ok (.iadd, 1) := by decide +kernel
theorem dX9_begins_72 : decode cX9_begins 72 = .ok (.iload_n 2, 1) := by decide +kernel
theorem dX9_begins_73 : decode cX9_begins 73 = .ok (.iadd, 1) := by decide +kernel
theorem dX9_begins_74 : decode cX9_begins 74 = .ok (.iconst 1, 1) := by decide +kernel
theorem dX9_begins_75 : decode cX9_begins 75 = .ok (.iastore, 1) := by decide +kernel
theorem dX9_begins_76 : decode cX9_begins 76 = .ok (.aload_n 0, 1) := by decide +kernel
theorem dX9_begins_77 : decode cX9_begins 77 = .ok (.getfield 7, 3) := by decide +kernel
theorem dX9_begins_80 : decode cX9_begins 80 = .ok (.iload_n 1, 1) := by decide +kernel
theorem dX9_begins_81 : decode cX9_begins 81 = .ok (.bipush 59, 2) := by decide +kernel
theorem dX9_begins_83 : decode cX9_begins 83 = .ok (.iadd, 1) := by decide +kernel
theorem dX9_begins_84 : decode cX9_begins 84 = .ok (.iload_n 2, 1) := by decide +kernel
theorem dX9_begins_85 : decode cX9_begins 85 = .ok (.iadd, 1) := by decide +kernel
theorem dX9_begins_86 : decode cX9_begins 86 = .ok (.aload_n 0, 1) := by decide +kernel
theorem dX9_begins_87 : decode cX9_begins 87 = .ok (.getfield 7, 3) := by decide +kernel
theorem dX9_begins_90 : decode cX9_begins 90 = .ok (.iload_n 1, 1) := by decide +kernel
theorem dX9_begins_91 : decode cX9_begins 91 = .ok (.bipush 71, 2) := by decide +kernel
theorem dX9_begins_93 : decode cX9_begins 93 = .ok (.iadd, 1) := by decide +kernel
theorem dX9_begins_94 : decode cX9_begins 94 = .ok (.iaload, 1) := by decide +kernel
theorem dX9_begins_95 : decode cX9_begins 95 = .ok (.aload_n 0, 1) := by decide +kernel
theorem dX9_begins_96 : decode cX9_begins 96 = .ok (.iload_n 1, 1) := by decide +kernel
theorem dX9_begins_97 : decode cX9_begins 97 = .ok (.iload_n 2, 1) := by decide +kernel
theorem dX9_begins_98 : decode cX9_begins 98 = .ok (.invokevirtual 234, 3) := by decide +kernel
theorem dX9_begins_101 : decode cX9_begins 101 = .ok (.iadd, 1) := by decide +kernel
theorem dX9_begins_102 : decode cX9_begins 102 = .ok (.iastore, 1) := by decide +kernel
theorem dX9_begins_103 : decode cX9_begins 103 = .ok (.aload_n 0, 1) := by decide +kernel
theorem dX9_begins_104 : decode cX9_begins 104 = .ok (.getfield 7, 3) := by decide +kernel
theorem dX9_begins_107 : decode cX9_begins 107 = .ok (.iload_n 1, 1) := by decide +kernel
theorem dX9_begins_108 : decode cX9_begins 108 = .ok (.bipush 74, 2) := by decide +kernel
theorem dX9_begins_110 : decode cX9_begins 110 = .ok (.iadd, 1) := by decide +kernel
theorem dX9_begins_111 : decode cX9_begins 111 = .ok (.dup2, 1) := by decide +kernel
theorem dX9_begins_112 : decode cX9_begins 112 = .ok (.iaload, 1) := by decide +kernel
theorem dX9_begins_113 : decode cX9_begins 113 = .ok (.iconst 1, 1) := by decide +kernel
theorem dX9_begins_114 : decode cX9_begins 114 = .ok (.iadd, 1) := by decide +kernel
theorem dX9_begins_115 : decode cX9_begins 115 = .ok (.iastore, 1) := by decide +kernel
theorem dX9_begins_116 : decode cX9_begins 116 = .ok (.return_, 1) := by decide +kernel
theorem dX9_canBegin_0 : decode cX9_canBegin 0 = .ok (.aload_n 0, 1) := by decide +kernel
theorem dX9_canBegin_1 : decode cX9_canBegin 1 = .ok (.getfield 7, 3) := by decide +kernel
theorem dX9_canBegin_4 : decode cX9_canBegin 4 = .ok (.iload_n 1, 1) := by decide +kernel
theorem dX9_canBegin_5 : decode cX9_canBegin 5 = .ok (.bipush 89, 2) := by decide +kernel
theorem dX9_canBegin_7 : decode cX9_canBegin 7 = .ok (.iadd, 1) := by decide +kernel
theorem dX9_canBegin_8 : decode cX9_canBegin 8 = .ok (.iload_n 2, 1) := by decide +kernel
theorem dX9_canBegin_9 : decode cX9_canBegin 9 = .ok (.iadd, 1) := by decide +kernel
theorem dX9_canBegin_10 : decode cX9_canBegin 10 = .ok (.iaload, 1) := by decide +kernel
theorem dX9_canBegin_11 : decode cX9_canBegin 11 = .ok (.istore_n 3, 1) := by decide +kernel
theorem dX9_canBegin_12 : decode cX9_canBegin 12 = .ok (.aload_n 0, 1) := by decide +kernel
theorem dX9_canBegin_13 : decode cX9_canBegin 13 = .ok (.getfield 7, 3) := by decide +kernel
theorem dX9_canBegin_16 : decode cX9_canBegin 16 = .ok (.iload_n 1, 1) := by decide +kernel
theorem dX9_canBegin_17 : decode cX9_canBegin 17 = .ok (.bipush 101, 2) := by decide +kernel
theorem dX9_canBegin_19 : decode cX9_canBegin 19 = .ok (.iadd, 1) := by decide +kernel
theorem dX9_canBegin_20 : decode cX9_canBegin 20 = .ok (.iload_n 2, 1) := by decide +kernel
theorem dX9_canBegin_21 : decode cX9_canBegin 21 = .ok (.iadd, 1) := by decide +kernel
theorem dX9_canBegin_22 : decode cX9_canBegin 22 = .ok (.iaload, 1) := by decide +kernel
theorem dX9_canBegin_23 : decode cX9_canBegin 23 = .ok (.istore 4, 2) := by decide +kernel
theorem dX9_canBegin_25 : decode cX9_canBegin 25 = .ok (.aload_n 0, 1) := by decide +kernel
theorem dX9_canBegin_26 : decode cX9_canBegin 26 = .ok (.getfield 7, 3) := by decide +kernel
theorem dX9_canBegin_29 : decode cX9_canBegin 29 = .ok (.iload_n 1, 1) := by decide +kernel
theorem dX9_canBegin_30 : decode cX9_canBegin 30 = .ok (.bipush 74, 2) := by decide +kernel
theorem dX9_canBegin_32 : decode cX9_canBegin 32 = .ok (.iadd, 1) := by decide +kernel
theorem dX9_canBegin_33 : decode cX9_canBegin 33 = .ok (.iaload, 1) := by decide +kernel
theorem dX9_canBegin_34 : decode cX9_canBegin 34 = .ok (.aload_n 0, 1) := by decide +kernel
theorem dX9_canBegin_35 : decode cX9_canBegin 35 = .ok (.getfield 29, 3) := by decide +kernel
theorem dX9_canBegin_38 : decode cX9_canBegin 38 = .ok (.iconst 0, 1) := by decide +kernel
theorem dX9_canBegin_39 : decode cX9_canBegin 39 = .ok (.iaload, 1) := by decide +kernel
theorem dX9_canBegin_40 : decode cX9_canBegin 40 = .ok (.if_icmp .lt 5, 3) := by decide +kernel
theorem dX9_canBegin_43 : decode cX9_canBegin 43 = .ok (.iconst 0, 1) := by decide +kernel
theorem dX9_canBegin_44 : decode cX9_canBegin 44 = .ok (.ireturn, 1) := by decide +kernel
theorem dX9_canBegin_45 : decode cX9_canBegin 45 = .ok (.iload_n 3, 1) := by decide +kernel
theorem dX9_canBegin_46 : decode cX9_canBegin 46 = .ok (.iconst 2, 1) := by decide +kernel
theorem dX9_canBegin_47 : decode cX9_canBegin 47 = .ok (.if_icmp .ge 42, 3) := by decide +kernel
theorem dX9_canBegin_50 : decode cX9_canBegin 50 = .ok (.aload_n 0, 1) := by decide +kernel
theorem dX9_canBegin_51 : decode cX9_canBegin 51 = .ok (.getfield 7, 3) := by decide +kernel
theorem dX9_canBegin_54 : decode cX9_canBegin 54 = .ok (.iload_n 1, 1) := by decide +kernel
theorem dX9_canBegin_55 : decode cX9_canBegin 55 = .ok (.bipush 16, 2) := by decide +kernel
theorem dX9_canBegin_57 : decode cX9_canBegin 57 = .ok (.iadd, 1) := by decide +kernel
theorem dX9_canBegin_58 : decode cX9_canBegin 58 = .ok (.iload 4, 2) := by decide +kernel
theorem dX9_canBegin_60 : decode cX9_canBegin 60 = .ok (.iadd, 1) := by decide +kernel
theorem dX9_canBegin_61 : decode cX9_canBegin 61 = .ok (.iaload, 1) := by decide +kernel
theorem dX9_canBegin_62 : decode cX9_canBegin 62 = .ok (.iconst 1, 1) := by decide +kernel
theorem dX9_canBegin_63 : decode cX9_canBegin 63 = .ok (.iload_n 3, 1) := by decide +kernel
theorem dX9_canBegin_64 : decode cX9_canBegin 64 = .ok (.isub, 1) := by decide +kernel
theorem dX9_canBegin_65 : decode cX9_canBegin 65 = .ok (.if_icmp .ne 22, 3) := by decide +kernel
theorem dX9_canBegin_68 : decode cX9_canBegin 68 = .ok (.aload_n 0, 1) := by decide +kernel
theorem dX9_canBegin_69 : decode cX9_canBegin 69 = .ok (.getfield 7, 3) := by decide +kernel
theorem dX9_canBegin_72 : decode cX9_canBegin 72 = .ok (.iload_n 1, 1) := by decide +kernel
theorem dX9_canBegin_73 : decode cX9_canBegin 73 = .ok (.bipush 26, 2) := by decide +kernel
theorem dX9_canBegin_75 : decode cX9_canBegin 75 = .ok (.iadd, 1) := by decide +kernel
theorem dX9_canBegin_76 : decode cX9_canBegin 76 = .ok (.iload 4, 2) := by decide +kernel
theorem dX9_canBegin_78 : decode cX9_canBegin 78 = .ok (.iadd, 1) := by decide +kernel
theorem dX9_canBegin_79 : decode cX9_canBegin 79 = .ok (.iaload, 1) := by decide +kernel
theorem dX9_canBegin_80 : decode cX9_canBegin 80 = .ok (.ifCond .ne 7, 3) := by decide +kernel
theorem dX9_canBegin_83 : decode cX9_canBegin 83 = .ok (.iconst 1, 1) := by decide +kernel
theorem dX9_canBegin_84 : decode cX9_canBegin 84 = .ok (.goto 4, 3) := by decide +kernel
theorem dX9_canBegin_87 : decode cX9_canBegin 87 = .ok (.iconst 0, 1) := by decide +kernel
theorem dX9_canBegin_88 : decode cX9_canBegin 88 = .ok (.ireturn, 1) := by decide +kernel
theorem dX9_canBegin_89 : decode cX9_canBegin 89 = .ok (.iload_n 3, 1) := by decide +kernel
theorem dX9_canBegin_90 : decode cX9_canBegin 90 = .ok (.iconst 2, 1) := by decide +kernel
theorem dX9_canBegin_91 : decode cX9_canBegin 91 = .ok (.if_icmp .ne 33, 3) := by decide +kernel
theorem dX9_canBegin_94 : decode cX9_canBegin 94 = .ok (.aload_n 0, 1) := by decide +kernel
theorem dX9_canBegin_95 : decode cX9_canBegin 95 = .ok (.getfield 7, 3) := by decide +kernel
theorem dX9_canBegin_98 : decode cX9_canBegin 98 = .ok (.iload_n 1, 1) := by decide +kernel
theorem dX9_canBegin_99 : decode cX9_canBegin 99 = .ok (.bipush 36, 2) := by decide +kernel
theorem dX9_canBegin_101 : decode cX9_canBegin 101 = .ok (.iadd, 1) := by decide +kernel
theorem dX9_canBegin_102 : decode cX9_canBegin 102 = .ok (.iload 4, 2) := by decide +kernel
theorem dX9_canBegin_104 : decode cX9_canBegin 104 = .ok (.iadd, 1) := by decide +kernel
theorem dX9_canBegin_105 : decode cX9_canBegin 105 = .ok (.iaload, 1) := by decide +kernel
theorem dX9_canBegin_106 : decode cX9_canBegin 106 = .ok (.ifCond .ne 22, 3) := by decide +kernel
theorem dX9_canBegin_109 : decode cX9_canBegin 109 = .ok (.aload_n 0, 1) := by decide +kernel
theorem dX9_canBegin_110 : decode cX9_canBegin 110 = .ok (.getfield 7, 3) := by decide +kernel
theorem dX9_canBegin_113 : decode cX9_canBegin 113 = .ok (.iload_n 1, 1) := by decide +kernel
theorem dX9_canBegin_114 : decode cX9_canBegin 114 = .ok (.bipush 40, 2) := by decide +kernel
theorem dX9_canBegin_116 : decode cX9_canBegin 116 = .ok (.iadd, 1) := by decide +kernel
theorem dX9_canBegin_117 : decode cX9_canBegin 117 = .ok (.iload 4, 2) := by decide +kernel
theorem dX9_canBegin_119 : decode cX9_canBegin 119 = .ok (.iadd, 1) := by decide +kernel
theorem dX9_canBegin_120 : decode cX9_canBegin 120 = .ok (.iaload, 1) := by decide +kernel
theorem dX9_canBegin_121 : decode cX9_canBegin 121 = .ok (.ifCond .ne 7, 3) := by decide +kernel
theorem dX9_canBegin_124 : decode cX9_canBegin 124 = .ok (.iconst 1, 1) := by decide +kernel
theorem dX9_canBegin_125 : decode cX9_canBegin 125 = .ok (.goto 4, 3) := by decide +kernel
theorem dX9_canBegin_128 : decode cX9_canBegin 128 = .ok (.iconst 0, 1) := by decide +kernel
theorem dX9_canBegin_129 : decode cX9_canBegin 129 = .ok (.ireturn, 1) := by decide +kernel
theorem dX9_ends_0 : decode cX9_ends 0 = .ok (.aload_n 0, 1) := by decide +kernel
theorem dX9_ends_1 : decode cX9_ends 1 = .ok (.getfield 7, 3) := by decide +kernel
theorem dX9_ends_4 : decode cX9_ends 4 = .ok (.iload_n 1, 1) := by decide +kernel
theorem dX9_ends_5 : decode cX9_ends 5 = .ok (.bipush 101, 2) := by decide +kernel
theorem dX9_ends_7 : decode cX9_ends 7 = .ok (.iadd, 1) := by decide +kernel
theorem dX9_ends_8 : decode cX9_ends 8 = .ok (.iload_n 2, 1) := by decide +kernel
theorem dX9_ends_9 : decode cX9_ends 9 = .ok (.iadd, 1) := by decide +kernel
theorem dX9_ends_10 : decode cX9_ends 10 = .ok (.iaload, 1) := by decide +kernel
theorem dX9_ends_11 : decode cX9_ends 11 = .ok (.istore_n 3, 1) := by decide +kernel
theorem dX9_ends_12 : decode cX9_ends 12 = .ok (.aload_n 0, 1) := by decide +kernel
theorem dX9_ends_13 : decode cX9_ends 13 = .ok (.getfield 7, 3) := by decide +kernel
theorem dX9_ends_16 : decode cX9_ends 16 = .ok (.iload_n 1, 1) := by decide +kernel
theorem dX9_ends_17 : decode cX9_ends 17 = .ok (.bipush 89, 2) := by decide +kernel
theorem dX9_ends_19 : decode cX9_ends 19 = .ok (.iadd, 1) := by decide +kernel
theorem dX9_ends_20 : decode cX9_ends 20 = .ok (.iload_n 2, 1) := by decide +kernel
theorem dX9_ends_21 : decode cX9_ends 21 = .ok (.iadd, 1) := by decide +kernel
theorem dX9_ends_22 : decode cX9_ends 22 = .ok (.iaload, 1) := by decide +kernel
theorem dX9_ends_23 : decode cX9_ends 23 = .ok (.tableswitch 135 0 3 #[29, 56, 83, 110], 29) := by decide +kernel
theorem dX9_ends_52 : decode cX9_ends 52 = .ok (.aload_n 0, 1) := by decide +kernel
theorem dX9_ends_53 : decode cX9_ends 53 = .ok (.getfield 7, 3) := by decide +kernel
theorem dX9_ends_56 : decode cX9_ends 56 = .ok (.iload_n 1, 1) := by decide +kernel
theorem dX9_ends_57 : decode cX9_ends 57 = .ok (.bipush 16, 2) := by decide +kernel
theorem dX9_ends_59 : decode cX9_ends 59 = .ok (.iadd, 1) := by decide +kernel
theorem dX9_ends_60 : decode cX9_ends 60 = .ok (.iload_n 3, 1) := by decide +kernel
theorem dX9_ends_61 : decode cX9_ends 61 = .ok (.iadd, 1) := by decide +kernel
theorem dX9_ends_62 : decode cX9_ends 62 = .ok (.iconst 0, 1) := by decide +kernel
theorem dX9_ends_63 : decode cX9_ends 63 = .ok (.iastore, 1) := by decide +kernel
theorem dX9_ends_64 : decode cX9_ends 64 = .ok (.aload_n 0, 1) := by decide +kernel
theorem dX9_ends_65 : decode cX9_ends 65 = .ok (.getfield 7, 3) := by decide +kernel
theorem dX9_ends_68 : decode cX9_ends 68 = .ok (.iload_n 1, 1) := by decide +kernel
theorem dX9_ends_69 : decode cX9_ends 69 = .ok (.bipush 26, 2) := by decide +kernel
theorem dX9_ends_71 : decode cX9_ends 71 = .ok (.iadd, 1) := by decide +kernel
theorem dX9_ends_72 : decode cX9_ends 72 = .ok (.iload_n 3, 1) := by decide +kernel
theorem dX9_ends_73 : decode cX9_ends 73 = .ok (.iadd, 1) := by decide +kernel
theorem dX9_ends_74 : decode cX9_ends 74 = .ok (.iconst 0, 1) := by decide +kernel
theorem dX9_ends_75 : decode cX9_ends 75 = .ok (.iastore, 1) := by decide +kernel
theorem dX9_ends_76 : decode cX9_ends 76 = .ok (.goto 104, 3) := by decide +kernel
theorem dX9_ends_79 : decode cX9_ends 79 = .ok (.aload_n 0, 1) := by decide +kernel
theorem dX9_ends_80 : decode cX9_ends 80 = .ok (.getfield 7, 3) := by decide +kernel
theorem dX9_ends_83 : decode cX9_ends 83 = .ok (.iload_n 1, 1) := by decide +kernel
theorem dX9_ends_84 : decode cX9_ends 84 = .ok (.bipush 16, 2) := by decide +kernel
theorem dX9_ends_86 : decode cX9_ends 86 = .ok (.iadd, 1) := by decide +kernel
theorem dX9_ends_87 : decode cX9_ends 87 = .ok (.iload_n 3, 1) := by decide +kernel
theorem dX9_ends_88 : decode cX9_ends 88 = .ok (.iadd, 1) := by decide +kernel
theorem dX9_ends_89 : decode cX9_ends 89 = .ok (.iconst 1, 1) := by decide +kernel
theorem dX9_ends_90 : decode cX9_ends 90 = .ok (.iastore, 1) := by decide +kernel
theorem dX9_ends_91 : decode cX9_ends 91 = .ok (.aload_n 0, 1) := by decide +kernel
theorem dX9_ends_92 : decode cX9_ends 92 = .ok (.getfield 7, 3) := by decide +kernel
theorem dX9_ends_95 : decode cX9_ends 95 = .ok (.iload_n 1, 1) := by decide +kernel
theorem dX9_ends_96 : decode cX9_ends 96 = .ok (.bipush 26, 2) := by decide +kernel
theorem dX9_ends_98 : decode cX9_ends 98 = .ok (.iadd, 1) := by decide +kernel
theorem dX9_ends_99 : decode cX9_ends 99 = .ok (.iload_n 3, 1) := by decide +kernel
theorem dX9_ends_100 : decode cX9_ends 100 = .ok (.iadd, 1) := by decide +kernel
theorem dX9_ends_101 : decode cX9_ends 101 = .ok (.iconst 0, 1) := by decide +kernel
theorem dX9_ends_102 : decode cX9_ends 102 = .ok (.iastore, 1) := by decide +kernel
theorem dX9_ends_103 : decode cX9_ends 103 = .ok (.goto 77, 3) := by decide +kernel
theorem dX9_ends_106 : decode cX9_ends 106 = .ok (.aload_n 0, 1) := by decide +kernel
theorem dX9_ends_107 : decode cX9_ends 107 = .ok (.getfield 7, 3) := by decide +kernel
theorem dX9_ends_110 : decode cX9_ends 110 = .ok (.iload_n 1, 1) := by decide +kernel
theorem dX9_ends_111 : decode cX9_ends 111 = .ok (.bipush 36, 2) := by decide +kernel
theorem dX9_ends_113 : decode cX9_ends 113 = .ok (.iadd, 1) := by decide +kernel
theorem dX9_ends_114 : decode cX9_ends 114 = .ok (.iload_n 3, 1) := by decide +kernel
theorem dX9_ends_115 : decode cX9_ends 115 = .ok (.iadd, 1) := by decide +kernel
theorem dX9_ends_116 : decode cX9_ends 116 = .ok (.iconst 1, 1) := by decide +kernel
theorem dX9_ends_117 : decode cX9_ends 117 = .ok (.iastore, 1) := by decide +kernel
theorem dX9_ends_118 : decode cX9_ends 118 = .ok (.aload_n 0, 1) := by decide +kernel
theorem dX9_ends_119 : decode cX9_ends 119 = .ok (.getfield 7, 3) := by decide +kernel
theorem dX9_ends_122 : decode cX9_ends 122 = .ok (.iload_n 1, 1) := by decide +kernel
theorem dX9_ends_123 : decode cX9_ends 123 = .ok (.bipush 40, 2) := by decide +kernel
theorem dX9_ends_125 : decode cX9_ends 125 = .ok (.iadd, 1) := by decide +kernel
theorem dX9_ends_126 : decode cX9_ends 126 = .ok (.iload_n 3, 1) := by decide +kernel
theorem dX9_ends_127 : decode cX9_ends 127 = .ok (.iadd, 1) := by decide +kernel
theorem dX9_ends_128 : decode cX9_ends 128 = .ok (.iconst 0, 1) := by decide +kernel
theorem dX9_ends_129 : decode cX9_ends 129 = .ok (.iastore, 1) := by decide +kernel
theorem dX9_ends_130 : decode cX9_ends 130 = .ok (.goto 50, 3) := by decide +kernel
theorem dX9_ends_133 : decode cX9_ends 133 = .ok (.aload_n 0, 1) := by decide +kernel
theorem dX9_ends_134 : decode cX9_ends 134 = .ok (.getfield 7, 3) := by decide +kernel
theorem dX9_ends_137 : decode cX9_ends 137 = .ok (.iload_n 1, 1) := by decide +kernel
theorem dX9_ends_138 : decode cX9_ends 138 = .ok (.bipush 44, 2) := by decide +kernel
theorem dX9_ends_140 : decode cX9_ends 140 = .ok (.iadd, 1) := by decide +kernel
theorem dX9_ends_141 : decode cX9_ends 141 = .ok (.iload_n 3, 1) := by decide +kernel
theorem dX9_ends_142 : decode cX9_ends 142 = .ok (.iadd, 1) := by decide +kernel
theorem dX9_ends_143 : decode cX9_ends 143 = .ok (.aload_n 0, 1) := by decide +kernel
theorem dX9_ends_144 : decode cX9_ends 144 = .ok (.getfield 7, 3) := by decide +kernel
theorem dX9_ends_147 : decode cX9_ends 147 = .ok (.iload_n 1, 1) := by decide +kernel
theorem dX9_ends_148 : decode cX9_ends 148 = .ok (.bipush 113, 2) := by decide +kernel
theorem dX9_ends_150 : decode cX9_ends 150 = .ok (.iadd, 1) := by decide +kernel
theorem dX9_ends_151 : decode cX9_ends 151 = .ok (.iload_n 2, 1) := by decide +kernel
theorem dX9_ends_152 : decode cX9_ends 152 = .ok (.iadd, 1) := by decide +kernel
theorem dX9_ends_153 : decode cX9_ends 153 = .ok (.iaload, 1) := by decide +kernel
theorem dX9_ends_154 : decode cX9_ends 154 = .ok (.iastore, 1) := by decide +kernel
theorem dX9_ends_155 : decode cX9_ends 155 = .ok (.goto 25, 3) := by decide +kernel
theorem dX9_ends_158 : decode cX9_ends 158 = .ok (.aload_n 0, 1) := by decide +kernel
theorem dX9_ends_159 : decode cX9_ends 159 = .ok (.getfield 7, 3) := by decide +kernel
theorem dX9_ends_162 : decode cX9_ends 162 = .ok (.iload_n 1, 1) := by decide +kernel
theorem dX9_ends_163 : decode cX9_ends 163 = .ok (.bipush 8, 2) := by decide +kernel
theorem dX9_ends_165 : decode cX9_ends 165 = .ok (.iadd, 1) := by decide +kernel
theorem dX9_ends_166 : decode cX9_ends 166 = .ok (.iload_n 3, 1) := by decide +kernel
theorem dX9_ends_167 : decode cX9_ends 167 = .ok (.iadd, 1) := by decide +kernel
theorem dX9_ends_168 : decode cX9_ends 168 = .ok (.aload_n 0, 1) := by decide +kernel
theorem dX9_ends_169 : decode cX9_ends 169 = .ok (.getfield 7, 3) := by decide +kernel
theorem dX9_ends_172 : decode cX9_ends 172 = .ok (.iload_n 1, 1) := by decide +kernel
theorem dX9_ends_173 : decode cX9_ends 173 = .ok (.bipush 113, 2) := by decide +kernel
theorem dX9_ends_175 : decode cX9_ends 175 = .ok (.iadd, 1) := by decide +kernel
theorem dX9_ends_176 : decode cX9_ends 176 = .ok (.iload_n 2, 1) := by decide +kernel
theorem dX9_ends_177 : decode cX9_ends 177 = .ok (.iadd, 1) := by decide +kernel
theorem dX9_ends_178 : decode cX9_ends 178 = .ok (.iaload, 1) := by decide +kernel
theorem dX9_ends_179 : decode cX9_ends 179 = .ok (.iastore, 1) := by decide +kernel
theorem dX9_ends_180 : decode cX9_ends 180 = .ok (.aload_n 0, 1) := by decide +kernel
theorem dX9_ends_181 : decode cX9_ends 181 = .ok (.getfield 7, 3) := by decide +kernel
theorem dX9_ends_184 : decode cX9_ends 184 = .ok (.iload_n 1, 1) := by decide +kernel
theorem dX9_ends_185 : decode cX9_ends 185 = .ok (.bipush 47, 2) := by decide +kernel
theorem dX9_ends_187 : decode cX9_ends 187 = .ok (.iadd, 1) := by decide +kernel
theorem dX9_ends_188 : decode cX9_ends 188 = .ok (.iload_n 2, 1) := by decide +kernel
theorem dX9_ends_189 : decode cX9_ends 189 = .ok (.iadd, 1) := by decide +kernel
theorem dX9_ends_190 : decode cX9_ends 190 = .ok (.iconst 2, 1) := by decide +kernel
theorem dX9_ends_191 : decode cX9_ends 191 = .ok (.iastore, 1) := by decide +kernel
theorem dX9_ends_192 : decode cX9_ends 192 = .ok (.aload_n 0, 1) := by decide +kernel
theorem dX9_ends_193 : decode cX9_ends 193 = .ok (.getfield 7, 3) := by decide +kernel
theorem dX9_ends_196 : decode cX9_ends 196 = .ok (.iload_n 1, 1) := by decide +kernel
theorem dX9_ends_197 : decode cX9_ends 197 = .ok (.bipush 74, 2) := by decide +kernel
theorem dX9_ends_199 : decode cX9_ends 199 = .ok (.iadd, 1) := by decide +kernel
theorem dX9_ends_200 : decode cX9_ends 200 = .ok (.dup2, 1) := by decide +kernel
theorem dX9_ends_201 : decode cX9_ends 201 = .ok (.iaload, 1) := by decide +kernel
theorem dX9_ends_202 : decode cX9_ends 202 = .ok (.iconst 1, 1) := by decide +kernel
theorem dX9_ends_203 : decode cX9_ends 203 = .ok (.isub, 1) := by decide +kernel
theorem dX9_ends_204 : decode cX9_ends 204 = .ok (.iastore, 1) := by decide +kernel
theorem dX9_ends_205 : decode cX9_ends 205 = .ok (.return_, 1) := by decide +kernel
theorem dX9_ordersGo_0 : decode cX9_ordersGo 0 = .ok (.iconst 0, 1) := by decide +kernel
theorem dX9_ordersGo_1 : decode cX9_ordersGo 1 = .ok (.istore_n 2, 1) := by decide +kernel
theorem dX9_ordersGo_2 : decode cX9_ordersGo 2 = .ok (.iload_n 2, 1) := by decide +kernel
theorem dX9_ordersGo_3 : decode cX9_ordersGo 3 = .ok (.aload_n 0, 1) := by decide +kernel
theorem dX9_ordersGo_4 : decode cX9_ordersGo 4 = .ok (.getfield 7, 3) := by decide +kernel
theorem dX9_ordersGo_7 : decode cX9_ordersGo 7 = .ok (.iload_n 1, 1) := by decide +kernel
theorem dX9_ordersGo_8 : decode cX9_ordersGo 8 = .ok (.bipush 76, 2) := by decide +kernel
theorem dX9_ordersGo_10 : decode cX9_ordersGo 10 = .ok (.iadd, 1) := by decide +kernel
theorem dX9_ordersGo_11 : decode cX9_ordersGo 11 = .ok (.iaload, 1) := by decide +kernel
theorem dX9_ordersGo_12 : decode cX9_ordersGo 12 = .ok (.if_icmp .ge 53, 3) := by decide +kernel
theorem dX9_ordersGo_15 : decode cX9_ordersGo 15 = .ok (.aload_n 0, 1) := by decide +kernel
theorem dX9_ordersGo_16 : decode cX9_ordersGo 16 = .ok (.getfield 7, 3) := by decide +kernel
theorem dX9_ordersGo_19 : decode cX9_ordersGo 19 = .ok (.iload_n 1, 1) := by decide +kernel
theorem dX9_ordersGo_20 : decode cX9_ordersGo 20 = .ok (.bipush 47, 2) := by decide +kernel
theorem dX9_ordersGo_22 : decode cX9_ordersGo 22 = .ok (.iadd, 1) := by decide +kernel
theorem dX9_ordersGo_23 : decode cX9_ordersGo 23 = .ok (.iload_n 2, 1) := by decide +kernel
theorem dX9_ordersGo_24 : decode cX9_ordersGo 24 = .ok (.iadd, 1) := by decide +kernel
theorem dX9_ordersGo_25 : decode cX9_ordersGo 25 = .ok (.iaload, 1) := by decide +kernel
theorem dX9_ordersGo_26 : decode cX9_ordersGo 26 = .ok (.iconst 1, 1) := by decide +kernel
theorem dX9_ordersGo_27 : decode cX9_ordersGo 27 = .ok (.if_icmp .ne 32, 3) := by decide +kernel
theorem dX9_ordersGo_30 : decode cX9_ordersGo 30 = .ok (.aload_n 0, 1) := by decide +kernel
theorem dX9_ordersGo_31 : decode cX9_ordersGo 31 = .ok (.getfield 7, 3) := by decide +kernel
theorem dX9_ordersGo_34 : decode cX9_ordersGo 34 = .ok (.iload_n 1, 1) := by decide +kernel
theorem dX9_ordersGo_35 : decode cX9_ordersGo 35 = .ok (.bipush 59, 2) := by decide +kernel
theorem dX9_ordersGo_37 : decode cX9_ordersGo 37 = .ok (.iadd, 1) := by decide +kernel
theorem dX9_ordersGo_38 : decode cX9_ordersGo 38 = .ok (.iload_n 2, 1) := by decide +kernel
theorem dX9_ordersGo_39 : decode cX9_ordersGo 39 = .ok (.iadd, 1) := by decide +kernel
theorem dX9_ordersGo_40 : decode cX9_ordersGo 40 = .ok (.iaload, 1) := by decide +kernel
theorem dX9_ordersGo_41 : decode cX9_ordersGo 41 = .ok (.aload_n 0, 1) := by decide +kernel
theorem dX9_ordersGo_42 : decode cX9_ordersGo 42 = .ok (.getfield 7, 3) := by decide +kernel
theorem dX9_ordersGo_45 : decode cX9_ordersGo 45 = .ok (.iload_n 1, 1) := by decide +kernel
theorem dX9_ordersGo_46 : decode cX9_ordersGo 46 = .ok (.bipush 71, 2) := by decide +kernel
theorem dX9_ordersGo_48 : decode cX9_ordersGo 48 = .ok (.iadd, 1) := by decide +kernel
theorem dX9_ordersGo_49 : decode cX9_ordersGo 49 = .ok (.iaload, 1) := by decide +kernel
theorem dX9_ordersGo_50 : decode cX9_ordersGo 50 = .ok (.if_icmp .ne 9, 3) := by decide +kernel
theorem dX9_ordersGo_53 : decode cX9_ordersGo 53 = .ok (.aload_n 0, 1) := by decide +kernel
theorem dX9_ordersGo_54 : decode cX9_ordersGo 54 = .ok (.iload_n 1, 1) := by decide +kernel
theorem dX9_ordersGo_55 : decode cX9_ordersGo 55 = .ok (.iload_n 2, 1) := by decide +kernel
theorem dX9_ordersGo_56 : decode cX9_ordersGo 56 = .ok (.invokevirtual 237, 3) := by decide +kernel
theorem dX9_ordersGo_59 : decode cX9_ordersGo 59 = .ok (.iinc 2 1, 3) := by decide +kernel
theorem dX9_ordersGo_62 : decode cX9_ordersGo 62 = .ok (.goto (-60), 3) := by decide +kernel
theorem dX9_ordersGo_65 : decode cX9_ordersGo 65 = .ok (.iconst 0, 1) := by decide +kernel
theorem dX9_ordersGo_66 : decode cX9_ordersGo 66 = .ok (.istore_n 2, 1) := by decide +kernel
theorem dX9_ordersGo_67 : decode cX9_ordersGo 67 = .ok (.iload_n 2, 1) := by decide +kernel
theorem dX9_ordersGo_68 : decode cX9_ordersGo 68 = .ok (.aload_n 0, 1) := by decide +kernel
theorem dX9_ordersGo_69 : decode cX9_ordersGo 69 = .ok (.getfield 7, 3) := by decide +kernel
theorem dX9_ordersGo_72 : decode cX9_ordersGo 72 = .ok (.iload_n 1, 1) := by decide +kernel
theorem dX9_ordersGo_73 : decode cX9_ordersGo 73 = .ok (.bipush 76, 2) := by decide +kernel
theorem dX9_ordersGo_75 : decode cX9_ordersGo 75 = .ok (.iadd, 1) := by decide +kernel
theorem dX9_ordersGo_76 : decode cX9_ordersGo 76 = .ok (.iaload, 1) := by decide +kernel
theorem dX9_ordersGo_77 : decode cX9_ordersGo 77 = .ok (.if_icmp .ge 89, 3) := by decide +kernel
theorem dX9_ordersGo_80 : decode cX9_ordersGo 80 = .ok (.aload_n 0, 1) := by decide +kernel
theorem dX9_ordersGo_81 : decode cX9_ordersGo 81 = .ok (.getfield 7, 3) := by decide +kernel
theorem dX9_ordersGo_84 : decode cX9_ordersGo 84 = .ok (.iload_n 1, 1) := by decide +kernel
theorem dX9_ordersGo_85 : decode cX9_ordersGo 85 = .ok (.bipush 47, 2) := by decide +kernel
theorem dX9_ordersGo_87 : decode cX9_ordersGo 87 = .ok (.iadd, 1) := by decide +kernel
theorem dX9_ordersGo_88 : decode cX9_ordersGo 88 = .ok (.iload_n 2, 1) := by decide +kernel
theorem dX9_ordersGo_89 : decode cX9_ordersGo 89 = .ok (.iadd, 1) := by decide +kernel
theorem dX9_ordersGo_90 : decode cX9_ordersGo 90 = .ok (.iaload, 1) := by decide +kernel
theorem dX9_ordersGo_91 : decode cX9_ordersGo 91 = .ok (.ifCond .ne 69, 3) := by decide +kernel
theorem dX9_ordersGo_94 : decode cX9_ordersGo 94 = .ok (.aload_n 0, 1) := by decide +kernel
theorem dX9_ordersGo_95 : decode cX9_ordersGo 95 = .ok (.getfield 7, 3) := by decide +kernel
theorem dX9_ordersGo_98 : decode cX9_ordersGo 98 = .ok (.iload_n 1, 1) := by decide +kernel
theorem dX9_ordersGo_99 : decode cX9_ordersGo 99 = .ok (.bipush 77, 2) := by decide +kernel
theorem dX9_ordersGo_101 : decode cX9_ordersGo 101 = .ok (.iadd, 1) := by decide +kernel
theorem dX9_ordersGo_102 : decode cX9_ordersGo 102 = .ok (.iload_n 2, 1) := by decide +kernel
theorem dX9_ordersGo_103 : decode cX9_ordersGo 103 = .ok (.iadd, 1) := by decide +kernel
theorem dX9_ordersGo_104 : decode cX9_ordersGo 104 = .ok (.iaload, 1) := by decide +kernel
theorem dX9_ordersGo_105 : decode cX9_ordersGo 105 = .ok (.aload_n 0, 1) := by decide +kernel
theorem dX9_ordersGo_106 : decode cX9_ordersGo 106 = .ok (.getfield 7, 3) := by decide +kernel
theorem dX9_ordersGo_109 : decode cX9_ordersGo 109 = .ok (.iload_n 1, 1) := by decide +kernel
theorem dX9_ordersGo_110 : decode cX9_ordersGo 110 = .ok (.bipush 71, 2) := by decide +kernel
theorem dX9_ordersGo_112 : decode cX9_ordersGo 112 = .ok (.iadd, 1) := by decide +kernel
theorem dX9_ordersGo_113 : decode cX9_ordersGo 113 = .ok (.iaload, 1) := by decide +kernel
theorem dX9_ordersGo_114 : decode cX9_ordersGo 114 = .ok (.if_icmp .ne 46, 3) := by decide +kernel
theorem dX9_ordersGo_117 : decode cX9_ordersGo 117 = .ok (.aload_n 0, 1) := by decide +kernel
theorem dX9_ordersGo_118 : decode cX9_ordersGo 118 = .ok (.iload_n 1, 1) := by decide +kernel
theorem dX9_ordersGo_119 : decode cX9_ordersGo 119 = .ok (.iload_n 2, 1) := by decide +kernel
theorem dX9_ordersGo_120 : decode cX9_ordersGo 120 = .ok (.invokevirtual 240, 3) := by decide +kernel
theorem dX9_ordersGo_123 : decode cX9_ordersGo 123 = .ok (.ifCond .eq 12, 3) := by decide +kernel
theorem dX9_ordersGo_126 : decode cX9_ordersGo 126 = .ok (.aload_n 0, 1) := by decide +kernel
theorem dX9_ordersGo_127 : decode cX9_ordersGo 127 = .ok (.iload_n 1, 1) := by decide +kernel
theorem dX9_ordersGo_128 : decode cX9_ordersGo 128 = .ok (.iload_n 2, 1) := by decide +kernel
theorem dX9_ordersGo_129 : decode cX9_ordersGo 129 = .ok (.invokevirtual 244, 3) := by decide +kernel
theorem dX9_ordersGo_132 : decode cX9_ordersGo 132 = .ok (.goto 28, 3) := by decide +kernel
theorem dX9_ordersGo_135 : decode cX9_ordersGo 135 = .ok (.aload_n 0, 1) := by decide +kernel
theorem dX9_ordersGo_136 : decode cX9_ordersGo 136 = .ok (.getfield 7, 3) := by decide +kernel
theorem dX9_ordersGo_139 : decode cX9_ordersGo 139 = .ok (.iload_n 1, 1) := by decide +kernel
theorem dX9_ordersGo_140 : decode cX9_ordersGo 140 = .ok (.bipush 47, 2) := by decide +kernel
theorem dX9_ordersGo_142 : decode cX9_ordersGo 142 = .ok (.iadd, 1) := by decide +kernel
theorem dX9_ordersGo_143 : decode cX9_ordersGo 143 = .ok (.iload_n 2, 1) := by decide +kernel
theorem dX9_ordersGo_144 : decode cX9_ordersGo 144 = .ok (.iadd, 1) := by decide +kernel
theorem dX9_ordersGo_145 : decode cX9_ordersGo 145 = .ok (.iconst 3, 1) := by decide +kernel
theorem dX9_ordersGo_146 : decode cX9_ordersGo 146 = .ok (.iastore, 1) := by decide +kernel
theorem dX9_ordersGo_147 : decode cX9_ordersGo 147 = .ok (.aload_n 0, 1) := by decide +kernel
theorem dX9_ordersGo_148 : decode cX9_ordersGo 148 = .ok (.getfield 7, 3) := by decide +kernel
theorem dX9_ordersGo_151 : decode cX9_ordersGo 151 = .ok (.iload_n 1, 1) := by decide +kernel
theorem dX9_ordersGo_152 : decode cX9_ordersGo 152 = .ok (.bipush 75, 2) := by decide +kernel
theorem dX9_ordersGo_154 : decode cX9_ordersGo 154 = .ok (.iadd, 1) := by decide +kernel
theorem dX9_ordersGo_155 : decode cX9_ordersGo 155 = .ok (.dup2, 1) := by decide +kernel
theorem dX9_ordersGo_156 : decode cX9_ordersGo 156 = .ok (.iaload, 1) := by decide +kernel
theorem dX9_ordersGo_157 : decode cX9_ordersGo 157 = .ok (.iconst 1, 1) := by decide +kernel
theorem dX9_ordersGo_158 : decode cX9_ordersGo 158 = .ok (.iadd, 1) := by decide +kernel
theorem dX9_ordersGo_159 : decode cX9_ordersGo 159 = .ok (.iastore, 1) := by decide +kernel
theorem dX9_ordersGo_160 : decode cX9_ordersGo 160 = .ok (.iinc 2 1, 3) := by decide +kernel
theorem dX9_ordersGo_163 : decode cX9_ordersGo 163 = .ok (.goto (-96), 3) := by decide +kernel
theorem dX9_ordersGo_166 : decode cX9_ordersGo 166 = .ok (.return_, 1) := by decide +kernel
theorem dX9_allOf_0 : decode cX9_allOf 0 = .ok (.iconst 0, 1) := by decide +kernel
theorem dX9_allOf_1 : decode cX9_allOf 1 = .ok (.istore_n 2, 1) := by decide +kernel
theorem dX9_allOf_2 : decode cX9_allOf 2 = .ok (.iconst 0, 1) := by decide +kernel
theorem dX9_allOf_3 : decode cX9_allOf 3 = .ok (.istore_n 3, 1) := by decide +kernel
theorem dX9_allOf_4 : decode cX9_allOf 4 = .ok (.iload_n 3, 1) := by decide +kernel
theorem dX9_allOf_5 : decode cX9_allOf 5 = .ok (.aload_n 0, 1) := by decide +kernel
theorem dX9_allOf_6 : decode cX9_allOf 6 = .ok (.getfield 93, 3) := by decide +kernel
theorem dX9_allOf_9 : decode cX9_allOf 9 = .ok (.if_icmp .ge 22, 3) := by decide +kernel
theorem dX9_allOf_12 : decode cX9_allOf 12 = .ok (.iload_n 2, 1) := by decide +kernel
theorem dX9_allOf_13 : decode cX9_allOf 13 = .ok (.aload_n 0, 1) := by decide +kernel
theorem dX9_allOf_14 : decode cX9_allOf 14 = .ok (.getfield 7, 3) := by decide +kernel
theorem dX9_allOf_17 : decode cX9_allOf 17 = .ok (.iload_n 1, 1) := by decide +kernel
theorem dX9_allOf_18 : decode cX9_allOf 18 = .ok (.iconst 0, 1) := by decide +kernel
theorem dX9_allOf_19 : decode cX9_allOf 19 = .ok (.iadd, 1) := by decide +kernel
theorem dX9_allOf_20 : decode cX9_allOf 20 = .ok (.iload_n 3, 1) := by decide +kernel
theorem dX9_allOf_21 : decode cX9_allOf 21 = .ok (.iadd, 1) := by decide +kernel
theorem dX9_allOf_22 : decode cX9_allOf 22 = .ok (.iaload, 1) := by decide +kernel
theorem dX9_allOf_23 : decode cX9_allOf 23 = .ok (.iadd, 1) := by decide +kernel
theorem dX9_allOf_24 : decode cX9_allOf 24 = .ok (.istore_n 2, 1) := by decide +kernel
theorem dX9_allOf_25 : decode cX9_allOf 25 = .ok (.iinc 3 1, 3) := by decide +kernel
theorem dX9_allOf_28 : decode cX9_allOf 28 = .ok (.goto (-24), 3) := by decide +kernel
theorem dX9_allOf_31 : decode cX9_allOf 31 = .ok (.iload_n 2, 1) := by decide +kernel
theorem dX9_allOf_32 : decode cX9_allOf 32 = .ok (.ireturn, 1) := by decide +kernel
theorem dX9_size_0 : decode cX9_size 0 = .ok (.iload_n 0, 1) := by decide +kernel
theorem dX9_size_1 : decode cX9_size 1 = .ok (.ifCond .ge 8, 3) := by decide +kernel
theorem dX9_size_4 : decode cX9_size 4 = .ok (.iload_n 0, 1) := by decide +kernel
theorem dX9_size_5 : decode cX9_size 5 = .ok (.ineg, 1) := by decide +kernel
theorem dX9_size_6 : decode cX9_size 6 = .ok (.goto 4, 3) := by decide +kernel
theorem dX9_size_9 : decode cX9_size 9 = .ok (.iload_n 0, 1) := by decide +kernel
theorem dX9_size_10 : decode cX9_size 10 = .ok (.ireturn, 1) := by decide +kernel
def f_X9_takes (m : Mm) (a1 : Int32) (a2 : Int32) : Option (Int32) :=
  (ald m 114 512 ((a1 + (89 : Int32)) + a2)).bind fun x1 => (ald m 114 512 ((a1 + (101 : Int32)) + a2)).bind fun x2 => if (2 : Int32) ≤ x1 then (if x1 = (2 : Int32) then ((ald m 118 12 (((3 : Int32) * x2) + (2 : Int32))).bind fun x3 => some x3) else (some 1)) else ((ald m 117 60 (((6 : Int32) * x2) + (4 : Int32))).bind fun x4 => some x4)
set_option maxHeartbeats 4000000 in
set_option maxRecDepth 100000 in
theorem ct_X9_takes (F : Nat) {n : Nat} (hn : 135 ≤ n) (P D : Nat) (T : Option Nat) (m : Mm) (a1 : Int32) (a2 : Int32) : Ct yX9_takes cX9_takes 5 (some .int) 0 0 [.ref 113, .int a1, .int a2] n n m (RF P D T) (rP m (RF P D T) (f_X9_takes m a1 a2)) := by
  refine Ct.ofP (own := RX9) (nm := "takes") [(0, .ref 113), (1, .int a1), (2, .int a2)] (by decide) (Nat.le_of_ble_eq_true rfl) rfl rfl rfl ?_
  unfold f_X9_takes
  refine J_aload_n 0 0 113 dX9_takes_0 rfl rfl ?_
  refine J_getR 113 9 0 114 dX9_takes_1 fl_9_7 rfl rfl (Nat.lt_of_lt_of_le (Nat.le_of_ble_eq_true rfl) hn) rfl ?_
  refine J_iload_n 1 1 a1 dX9_takes_4 rfl rfl ?_
  refine J_bipush 89 dX9_takes_5 (by decide) ?_
  refine J_iadd dX9_takes_7 ?_
  refine J_iload_n 2 2 a2 dX9_takes_8 rfl rfl ?_
  refine J_iadd dX9_takes_9 ?_
  refine J_iald 114 512 dX9_takes_10 rfl (Nat.lt_of_lt_of_le (Nat.le_of_ble_eq_true rfl) hn) (fun x1 => ?_)
  refine J_istore_n 3 [(3, .int x1), (0, .ref 113), (1, .int a1), (2, .int a2)] dX9_takes_11 rfl (by decide) rfl ?_
  refine J_aload_n 0 1 113 dX9_takes_12 rfl rfl ?_
  refine J_getR 113 9 0 114 dX9_takes_13 fl_9_7 rfl rfl (Nat.lt_of_lt_of_le (Nat.le_of_ble_eq_true rfl) hn) rfl ?_
  refine J_iload_n 1 2 a1 dX9_takes_16 rfl rfl ?_
  refine J_bipush 101 dX9_takes_17 (by decide) ?_
  refine J_iadd dX9_takes_19 ?_
  refine J_iload_n 2 3 a2 dX9_takes_20 rfl rfl ?_
  refine J_iadd dX9_takes_21 ?_
  refine J_iald 114 512 dX9_takes_22 rfl (Nat.lt_of_lt_of_le (Nat.le_of_ble_eq_true rfl) hn) (fun x2 => ?_)
  refine J_istore 4 [(4, .int x2), (3, .int x1), (0, .ref 113), (1, .int a1), (2, .int a2)] dX9_takes_23 (by decide) rfl ?_
  refine J_iload_n 3 1 x1 dX9_takes_25 rfl rfl ?_
  refine J_iconst 2 dX9_takes_26 (by decide) ?_
  refine J_icmp_ge 45 dX9_takes_27 (by decide) ?_ ?_
  · refine J_iload_n 3 1 x1 dX9_takes_45 rfl rfl ?_
    refine J_iconst 2 dX9_takes_46 (by decide) ?_
    refine J_icmp_ne 64 dX9_takes_47 (by decide) ?_ ?_
    · refine J_iconst 1 dX9_takes_64 (by decide) ?_
      exact J_iretP dX9_takes_65 rfl rfl
    · refine J_aload_n 0 2 113 dX9_takes_50 rfl rfl ?_
      refine J_getR 113 9 7 118 dX9_takes_51 fl_9_23 rfl rfl (Nat.lt_of_lt_of_le (Nat.le_of_ble_eq_true rfl) hn) rfl ?_
      refine J_iconst 3 dX9_takes_54 (by decide) ?_
      refine J_iload 4 0 x2 dX9_takes_55 rfl ?_
      refine J_imul dX9_takes_57 ?_
      refine J_iconst 2 dX9_takes_58 (by decide) ?_
      refine J_iadd dX9_takes_59 ?_
      refine J_iald 118 12 dX9_takes_60 rfl (Nat.lt_of_lt_of_le (Nat.le_of_ble_eq_true rfl) hn) (fun x3 => ?_)
      refine J_goto 65 dX9_takes_61 (by decide) ?_
      exact J_iretP dX9_takes_65 rfl rfl
  · refine J_aload_n 0 2 113 dX9_takes_30 rfl rfl ?_
    refine J_getR 113 9 5 117 dX9_takes_31 fl_9_20 rfl rfl (Nat.lt_of_lt_of_le (Nat.le_of_ble_eq_true rfl) hn) rfl ?_
    refine J_bipush 6 dX9_takes_34 (by decide) ?_
    refine J_iload 4 0 x2 dX9_takes_36 rfl ?_
    refine J_imul dX9_takes_38 ?_
    refine J_iconst 4 dX9_takes_39 (by decide) ?_
    refine J_iadd dX9_takes_40 ?_
    refine J_iald 117 60 dX9_takes_41 rfl (Nat.lt_of_lt_of_le (Nat.le_of_ble_eq_true rfl) hn) (fun x4 => ?_)
    refine J_goto 65 dX9_takes_42 (by decide) ?_
    exact J_iretP dX9_takes_65 rfl rfl
def f_X9_begins (m : Mm) (a1 : Int32) (a2 : Int32) : Option (Mm) :=
  (ald m 114 512 ((a1 + (89 : Int32)) + a2)).bind fun x1 => (ald m 114 512 ((a1 + (101 : Int32)) + a2)).bind fun x2 => (if (2 : Int32) ≤ x1 then (if x1 = (2 : Int32) then ((ast m 114 512 ((a1 + (40 : Int32)) + x2) 1).bind fun m4 => some m4) else (some m)) else ((ast m 114 512 ((a1 + (26 : Int32)) + x2) 1).bind fun m5 => some m5) : Option (Mm)).bind fun y3 => (ast y3 114 512 ((a1 + (47 : Int32)) + a2) 1).bind fun m6 => (ald m6 114 512 (a1 + (71 : Int32))).bind fun x7 => (f_X9_takes m6 a1 a2).bind fun x8 => (ast m6 114 512 ((a1 + (59 : Int32)) + a2) (x7 + x8)).bind fun m10 => (ald m10 114 512 (a1 + (74 : Int32))).bind fun x11 => (ast m10 114 512 (a1 + (74 : Int32)) (x11 + (1 : Int32))).bind fun m12 => some m12
set_option maxHeartbeats 4000000 in
set_option maxRecDepth 100000 in
theorem ct_X9_begins (F : Nat) {n : Nat} (hn : 135 ≤ n) (P D : Nat) (T : Option Nat) (m : Mm) (a1 : Int32) (a2 : Int32) : Ct yX9_begins cX9_begins 5 none 1 24 [.ref 113, .int a1, .int a2] n n m (RF P D T) (rV (RF P D T) (f_X9_begins m a1 a2)) := by
  refine Ct.ofV (own := RX9) (nm := "begins") [(0, .ref 113), (1, .int a1), (2, .int a2)] (by decide) (Nat.le_of_ble_eq_true rfl) rfl rfl rfl ?_
  unfold f_X9_begins
  refine J_aload_n 0 0 113 dX9_begins_0 rfl rfl ?_
  refine J_getR 113 9 0 114 dX9_begins_1 fl_9_7 rfl rfl (Nat.lt_of_lt_of_le (Nat.le_of_ble_eq_true rfl) hn) rfl ?_
  refine J_iload_n 1 1 a1 dX9_begins_4 rfl rfl ?_
  refine J_bipush 89 dX9_begins_5 (by decide) ?_
  refine J_iadd dX9_begins_7 ?_
  refine J_iload_n 2 2 a2 dX9_begins_8 rfl rfl ?_
  refine J_iadd dX9_begins_9 ?_
  refine J_iald 114 512 dX9_begins_10 rfl (Nat.lt_of_lt_of_le (Nat.le_of_ble_eq_true rfl) hn) (fun x1 => ?_)
  refine J_istore_n 3 [(3, .int x1), (0, .ref 113), (1, .int a1), (2, .int a2)] dX9_begins_11 rfl (by decide) rfl ?_
  refine J_aload_n 0 1 113 dX9_begins_12 rfl rfl ?_
  refine J_getR 113 9 0 114 dX9_begins_13 fl_9_7 rfl rfl (Nat.lt_of_lt_of_le (Nat.le_of_ble_eq_true rfl) hn) rfl ?_
  refine J_iload_n 1 2 a1 dX9_begins_16 rfl rfl ?_
  refine J_bipush 101 dX9_begins_17 (by decide) ?_
  refine J_iadd dX9_begins_19 ?_
  refine J_iload_n 2 3 a2 dX9_begins_20 rfl rfl ?_
  refine J_iadd dX9_begins_21 ?_
  refine J_iald 114 512 dX9_begins_22 rfl (Nat.lt_of_lt_of_le (Nat.le_of_ble_eq_true rfl) hn) (fun x2 => ?_)
  refine J_istore 4 [(4, .int x2), (3, .int x1), (0, .ref 113), (1, .int a1), (2, .int a2)] dX9_begins_23 (by decide) rfl ?_
  refine J_iload_n 3 1 x1 dX9_begins_25 rfl rfl ?_
  refine J_iconst 2 dX9_begins_26 (by decide) ?_
  refine J_seqJ 64 (fun y3 : Mm => [(0, .ref 113), (1, .int a1), (2, .int a2)]) (fun y3 => []) (fun y3 => y3) (fun y3 => ?_) (fun k1 hEy3 => ?_)
  · refine J_aload_n 0 0 113 dX9_begins_64 rfl rfl ?_
    refine J_getR 113 9 0 114 dX9_begins_65 fl_9_7 rfl rfl (Nat.lt_of_lt_of_le (Nat.le_of_ble_eq_true rfl) hn) rfl ?_
    refine J_iload_n 1 1 a1 dX9_begins_68 rfl rfl ?_
    refine J_bipush 47 dX9_begins_69 (by decide) ?_
    refine J_iadd dX9_begins_71 ?_
    refine J_iload_n 2 2 a2 dX9_begins_72 rfl rfl ?_
    refine J_iadd dX9_begins_73 ?_
    refine J_iconst 1 dX9_begins_74 (by decide) ?_
    refine J_iast 114 512 dX9_begins_75 rfl (Nat.lt_of_lt_of_le (Nat.le_of_ble_eq_true rfl) hn) (fun m6 => ?_)
    refine J_aload_n 0 0 113 dX9_begins_76 rfl rfl ?_
    refine J_getR 113 9 0 114 dX9_begins_77 fl_9_7 rfl rfl (Nat.lt_of_lt_of_le (Nat.le_of_ble_eq_true rfl) hn) rfl ?_
    refine J_iload_n 1 1 a1 dX9_begins_80 rfl rfl ?_
    refine J_bipush 59 dX9_begins_81 (by decide) ?_
    refine J_iadd dX9_begins_83 ?_
    refine J_iload_n 2 2 a2 dX9_begins_84 rfl rfl ?_
    refine J_iadd dX9_begins_85 ?_
    refine J_aload_n 0 0 113 dX9_begins_86 rfl rfl ?_
    refine J_getR 113 9 0 114 dX9_begins_87 fl_9_7 rfl rfl (Nat.lt_of_lt_of_le (Nat.le_of_ble_eq_true rfl) hn) rfl ?_
    refine J_iload_n 1 1 a1 dX9_begins_90 rfl rfl ?_
    refine J_bipush 71 dX9_begins_91 (by decide) ?_
    refine J_iadd dX9_begins_93 ?_
    refine J_iald 114 512 dX9_begins_94 rfl (Nat.lt_of_lt_of_le (Nat.le_of_ble_eq_true rfl) hn) (fun x7 => ?_)
    refine J_aload_n 0 0 113 dX9_begins_95 rfl rfl ?_
    refine J_iload_n 1 1 a1 dX9_begins_96 rfl rfl ?_
    refine J_iload_n 2 2 a2 dX9_begins_97 rfl rfl ?_
    refine J_callVP 113 9 2 [.int a1, .int a2] dX9_begins_98 mv_X9_takes mv_X9_takesv lk_9_234 (ct_X9_takes F hn P D T m6 a1 a2) rfl rfl (by decide) rfl (Nat.lt_of_lt_of_le (Nat.le_of_ble_eq_true rfl) hn) ⟨by decide, by decide⟩ (Nat.le_of_ble_eq_true rfl) (fun x8 => ?_)
    refine J_iadd dX9_begins_101 ?_
    refine J_iast 114 512 dX9_begins_102 rfl (Nat.lt_of_lt_of_le (Nat.le_of_ble_eq_true rfl) hn) (fun m10 => ?_)
    refine J_aload_n 0 0 113 dX9_begins_103 rfl rfl ?_
    refine J_getR 113 9 0 114 dX9_begins_104 fl_9_7 rfl rfl (Nat.lt_of_lt_of_le (Nat.le_of_ble_eq_true rfl) hn) rfl ?_
    refine J_iload_n 1 1 a1 dX9_begins_107 rfl rfl ?_
    refine J_bipush 74 dX9_begins_108 (by decide) ?_
    refine J_iadd dX9_begins_110 ?_
    refine J_dup2 dX9_begins_111 rfl rfl ?_
    refine J_iald 114 512 dX9_begins_112 rfl (Nat.lt_of_lt_of_le (Nat.le_of_ble_eq_true rfl) hn) (fun x11 => ?_)
    refine J_iconst 1 dX9_begins_113 (by decide) ?_
    refine J_iadd dX9_begins_114 ?_
    refine J_iast 114 512 dX9_begins_115 rfl (Nat.lt_of_lt_of_le (Nat.le_of_ble_eq_true rfl) hn) (fun m12 => ?_)
    exact J_vretV dX9_begins_116 rfl rfl
  · refine J_icmp_ge 46 dX9_begins_27 (by decide) ?_ ?_
    · refine J_iload_n 3 1 x1 dX9_begins_46 rfl rfl ?_
      refine J_iconst 2 dX9_begins_47 (by decide) ?_
      refine J_icmp_ne 64 dX9_begins_48 (by decide) ?_ ?_
      · exact J_lv [2, 3, 4] rfl (hEy3 m)
      · refine J_aload_n 0 2 113 dX9_begins_51 rfl rfl ?_
        refine J_getR 113 9 0 114 dX9_begins_52 fl_9_7 rfl rfl (Nat.lt_of_lt_of_le (Nat.le_of_ble_eq_true rfl) hn) rfl ?_
        refine J_iload_n 1 3 a1 dX9_begins_55 rfl rfl ?_
        refine J_bipush 40 dX9_begins_56 (by decide) ?_
        refine J_iadd dX9_begins_58 ?_
        refine J_iload 4 0 x2 dX9_begins_59 rfl ?_
        refine J_iadd dX9_begins_61 ?_
        refine J_iconst 1 dX9_begins_62 (by decide) ?_
        refine J_iast 114 512 dX9_begins_63 rfl (Nat.lt_of_lt_of_le (Nat.le_of_ble_eq_true rfl) hn) (fun m4 => ?_)
        exact J_lv [2, 3, 4] rfl (hEy3 m4)
    · refine J_aload_n 0 2 113 dX9_begins_30 rfl rfl ?_
      refine J_getR 113 9 0 114 dX9_begins_31 fl_9_7 rfl rfl (Nat.lt_of_lt_of_le (Nat.le_of_ble_eq_true rfl) hn) rfl ?_
      refine J_iload_n 1 3 a1 dX9_begins_34 rfl rfl ?_
      refine J_bipush 26 dX9_begins_35 (by decide) ?_
      refine J_iadd dX9_begins_37 ?_
      refine J_iload 4 0 x2 dX9_begins_38 rfl ?_
      refine J_iadd dX9_begins_40 ?_
      refine J_iconst 1 dX9_begins_41 (by decide) ?_
      refine J_iast 114 512 dX9_begins_42 rfl (Nat.lt_of_lt_of_le (Nat.le_of_ble_eq_true rfl) hn) (fun m5 => ?_)
      refine J_goto 64 dX9_begins_43 (by decide) ?_
      exact J_lv [2, 3, 4] rfl (hEy3 m5)
def f_X9_canBegin (m : Mm) (a1 : Int32) (a2 : Int32) : Option (Int32) :=
  (ald m 114 512 ((a1 + (89 : Int32)) + a2)).bind fun x1 => (ald m 114 512 ((a1 + (101 : Int32)) + a2)).bind fun x2 => (ald m 114 512 (a1 + (74 : Int32))).bind fun x3 => (ald m 120 5 0).bind fun x4 => if x3 < x4 then (if (2 : Int32) ≤ x1 then (if x1 = (2 : Int32) then ((ald m 114 512 ((a1 + (36 : Int32)) + x2)).bind fun x5 => if x5 = 0 then ((ald m 114 512 ((a1 + (40 : Int32)) + x2)).bind fun x6 => if x6 = 0 then (some 1) else (some 0)) else (some 0)) else (some 1)) else ((ald m 114 512 ((a1 + (16 : Int32)) + x2)).bind fun x7 => if x7 = ((1 : Int32) - x1) then ((ald m 114 512 ((a1 + (26 : Int32)) + x2)).bind fun x8 => if x8 = 0 then (some 1) else (some 0)) else (some 0))) else (some 0)
set_option maxHeartbeats 4000000 in
set_option maxRecDepth 100000 in
theorem ct_X9_canBegin (F : Nat) {n : Nat} (hn : 135 ≤ n) (P D : Nat) (T : Option Nat) (m : Mm) (a1 : Int32) (a2 : Int32) : Ct yX9_canBegin cX9_canBegin 5 (some .boolean) 0 0 [.ref 113, .int a1, .int a2] n n m (RF P D T) (rP m (RF P D T) (f_X9_canBegin m a1 a2)) := by
  refine Ct.ofP (own := RX9) (nm := "canBegin") [(0, .ref 113), (1, .int a1), (2, .int a2)] (by decide) (Nat.le_of_ble_eq_true rfl) rfl rfl rfl ?_
  unfold f_X9_canBegin
  refine J_aload_n 0 0 113 dX9_canBegin_0 rfl rfl ?_
  refine J_getR 113 9 0 114 dX9_canBegin_1 fl_9_7 rfl rfl (Nat.lt_of_lt_of_le (Nat.le_of_ble_eq_true rfl) hn) rfl ?_
  refine J_iload_n 1 1 a1 dX9_canBegin_4 rfl rfl ?_
  refine J_bipush 89 dX9_canBegin_5 (by decide) ?_
  refine J_iadd dX9_canBegin_7 ?_
  refine J_iload_n 2 2 a2 dX9_canBegin_8 rfl rfl ?_
  refine J_iadd dX9_canBegin_9 ?_
  refine J_iald 114 512 dX9_canBegin_10 rfl (Nat.lt_of_lt_of_le (Nat.le_of_ble_eq_true rfl) hn) (fun x1 => ?_)
  refine J_istore_n 3 [(3, .int x1), (0, .ref 113), (1, .int a1), (2, .int a2)] dX9_canBegin_11 rfl (by decide) rfl ?_
  refine J_aload_n 0 1 113 dX9_canBegin_12 rfl rfl ?_
  refine J_getR 113 9 0 114 dX9_canBegin_13 fl_9_7 rfl rfl (Nat.lt_of_lt_of_le (Nat.le_of_ble_eq_true rfl) hn) rfl ?_
  refine J_iload_n 1 2 a1 dX9_canBegin_16 rfl rfl ?_
  refine J_bipush 101 dX9_canBegin_17 (by decide) ?_
  refine J_iadd dX9_canBegin_19 ?_
  refine J_iload_n 2 3 a2 dX9_canBegin_20 rfl rfl ?_
  refine J_iadd dX9_canBegin_21 ?_
  refine J_iald 114 512 dX9_canBegin_22 rfl (Nat.lt_of_lt_of_le (Nat.le_of_ble_eq_true rfl) hn) (fun x2 => ?_)
  refine J_istore 4 [(4, .int x2), (3, .int x1), (0, .ref 113), (1, .int a1), (2, .int a2)] dX9_canBegin_23 (by decide) rfl ?_
  refine J_aload_n 0 2 113 dX9_canBegin_25 rfl rfl ?_
  refine J_getR 113 9 0 114 dX9_canBegin_26 fl_9_7 rfl rfl (Nat.lt_of_lt_of_le (Nat.le_of_ble_eq_true rfl) hn) rfl ?_
  refine J_iload_n 1 3 a1 dX9_canBegin_29 rfl rfl ?_
  refine J_bipush 74 dX9_canBegin_30 (by decide) ?_
  refine J_iadd dX9_canBegin_32 ?_
  refine J_iald 114 512 dX9_canBegin_33 rfl (Nat.lt_of_lt_of_le (Nat.le_of_ble_eq_true rfl) hn) (fun x3 => ?_)
  refine J_aload_n 0 2 113 dX9_canBegin_34 rfl rfl ?_
  refine J_getR 113 9 10 120 dX9_canBegin_35 fl_9_29 rfl rfl (Nat.lt_of_lt_of_le (Nat.le_of_ble_eq_true rfl) hn) rfl ?_
  refine J_iconst 0 dX9_canBegin_38 (by decide) ?_
  refine J_iald 120 5 dX9_canBegin_39 rfl (Nat.lt_of_lt_of_le (Nat.le_of_ble_eq_true rfl) hn) (fun x4 => ?_)
  refine J_icmp_lt 45 dX9_canBegin_40 (by decide) ?_ ?_
  · refine J_iload_n 3 1 x1 dX9_canBegin_45 rfl rfl ?_
    refine J_iconst 2 dX9_canBegin_46 (by decide) ?_
    refine J_icmp_ge 89 dX9_canBegin_47 (by decide) ?_ ?_
    · refine J_iload_n 3 1 x1 dX9_canBegin_89 rfl rfl ?_
      refine J_iconst 2 dX9_canBegin_90 (by decide) ?_
      refine J_icmp_ne 124 dX9_canBegin_91 (by decide) ?_ ?_
      · refine J_iconst 1 dX9_canBegin_124 (by decide) ?_
        refine J_goto 129 dX9_canBegin_125 (by decide) ?_
        exact J_zretP dX9_canBegin_129 rfl rfl rfl
      · refine J_aload_n 0 2 113 dX9_canBegin_94 rfl rfl ?_
        refine J_getR 113 9 0 114 dX9_canBegin_95 fl_9_7 rfl rfl (Nat.lt_of_lt_of_le (Nat.le_of_ble_eq_true rfl) hn) rfl ?_
        refine J_iload_n 1 3 a1 dX9_canBegin_98 rfl rfl ?_
        refine J_bipush 36 dX9_canBegin_99 (by decide) ?_
        refine J_iadd dX9_canBegin_101 ?_
        refine J_iload 4 0 x2 dX9_canBegin_102 rfl ?_
        refine J_iadd dX9_canBegin_104 ?_
        refine J_iald 114 512 dX9_canBegin_105 rfl (Nat.lt_of_lt_of_le (Nat.le_of_ble_eq_true rfl) hn) (fun x5 => ?_)
        refine J_if_ne 128 dX9_canBegin_106 (by decide) ?_ ?_
        · refine J_iconst 0 dX9_canBegin_128 (by decide) ?_
          exact J_zretP dX9_canBegin_129 rfl rfl rfl
        · refine J_aload_n 0 2 113 dX9_canBegin_109 rfl rfl ?_
          refine J_getR 113 9 0 114 dX9_canBegin_110 fl_9_7 rfl rfl (Nat.lt_of_lt_of_le (Nat.le_of_ble_eq_true rfl) hn) rfl ?_
          refine J_iload_n 1 3 a1 dX9_canBegin_113 rfl rfl ?_
          refine J_bipush 40 dX9_canBegin_114 (by decide) ?_
          refine J_iadd dX9_canBegin_116 ?_
          refine J_iload 4 0 x2 dX9_canBegin_117 rfl ?_
          refine J_iadd dX9_canBegin_119 ?_
          refine J_iald 114 512 dX9_canBegin_120 rfl (Nat.lt_of_lt_of_le (Nat.le_of_ble_eq_true rfl) hn) (fun x6 => ?_)
          refine J_if_ne 128 dX9_canBegin_121 (by decide) ?_ ?_
          · refine J_iconst 0 dX9_canBegin_128 (by decide) ?_
            exact J_zretP dX9_canBegin_129 rfl rfl rfl
          · refine J_iconst 1 dX9_canBegin_124 (by decide) ?_
            refine J_goto 129 dX9_canBegin_125 (by decide) ?_
            exact J_zretP dX9_canBegin_129 rfl rfl rfl
    · refine J_aload_n 0 2 113 dX9_canBegin_50 rfl rfl ?_
      refine J_getR 113 9 0 114 dX9_canBegin_51 fl_9_7 rfl rfl (Nat.lt_of_lt_of_le (Nat.le_of_ble_eq_true rfl) hn) rfl ?_
      refine J_iload_n 1 3 a1 dX9_canBegin_54 rfl rfl ?_
      refine J_bipush 16 dX9_canBegin_55 (by decide) ?_
      refine J_iadd dX9_canBegin_57 ?_
      refine J_iload 4 0 x2 dX9_canBegin_58 rfl ?_
      refine J_iadd dX9_canBegin_60 ?_
      refine J_iald 114 512 dX9_canBegin_61 rfl (Nat.lt_of_lt_of_le (Nat.le_of_ble_eq_true rfl) hn) (fun x7 => ?_)
      refine J_iconst 1 dX9_canBegin_62 (by decide) ?_
      refine J_iload_n 3 1 x1 dX9_canBegin_63 rfl rfl ?_
      refine J_isub dX9_canBegin_64 ?_
      refine J_icmp_ne 87 dX9_canBegin_65 (by decide) ?_ ?_
      · refine J_iconst 0 dX9_canBegin_87 (by decide) ?_
        exact J_zretP dX9_canBegin_88 rfl rfl rfl
      · refine J_aload_n 0 2 113 dX9_canBegin_68 rfl rfl ?_
        refine J_getR 113 9 0 114 dX9_canBegin_69 fl_9_7 rfl rfl (Nat.lt_of_lt_of_le (Nat.le_of_ble_eq_true rfl) hn) rfl ?_
        refine J_iload_n 1 3 a1 dX9_canBegin_72 rfl rfl ?_
        refine J_bipush 26 dX9_canBegin_73 (by decide) ?_
        refine J_iadd dX9_canBegin_75 ?_
        refine J_iload 4 0 x2 dX9_canBegin_76 rfl ?_
        refine J_iadd dX9_canBegin_78 ?_
        refine J_iald 114 512 dX9_canBegin_79 rfl (Nat.lt_of_lt_of_le (Nat.le_of_ble_eq_true rfl) hn) (fun x8 => ?_)
        refine J_if_ne 87 dX9_canBegin_80 (by decide) ?_ ?_
        · refine J_iconst 0 dX9_canBegin_87 (by decide) ?_
          exact J_zretP dX9_canBegin_88 rfl rfl rfl
        · refine J_iconst 1 dX9_canBegin_83 (by decide) ?_
          refine J_goto 88 dX9_canBegin_84 (by decide) ?_
          exact J_zretP dX9_canBegin_88 rfl rfl rfl
  · refine J_iconst 0 dX9_canBegin_43 (by decide) ?_
    exact J_zretP dX9_canBegin_44 rfl rfl rfl
def f_X9_ends (m : Mm) (a1 : Int32) (a2 : Int32) : Option (Mm) :=
  (ald m 114 512 ((a1 + (101 : Int32)) + a2)).bind fun x1 => (ald m 114 512 ((a1 + (89 : Int32)) + a2)).bind fun x2 => (if x2 = 0 then ((ast m 114 512 ((a1 + (16 : Int32)) + x1) 0).bind fun m4 => (ast m4 114 512 ((a1 + (26 : Int32)) + x1) 0).bind fun m5 => some m5) else (if x2 = 1 then ((ast m 114 512 ((a1 + (16 : Int32)) + x1) 1).bind fun m6 => (ast m6 114 512 ((a1 + (26 : Int32)) + x1) 0).bind fun m7 => some m7) else (if x2 = 2 then ((ast m 114 512 ((a1 + (36 : Int32)) + x1) 1).bind fun m8 => (ast m8 114 512 ((a1 + (40 : Int32)) + x1) 0).bind fun m9 => some m9) else (if x2 = 3 then ((ald m 114 512 ((a1 + (113 : Int32)) + a2)).bind fun x10 => (ast m 114 512 ((a1 + (44 : Int32)) + x1) x10).bind fun m11 => some m11) else ((ald m 114 512 ((a1 + (113 : Int32)) + a2)).bind fun x12 => (ast m 114 512 ((a1 + (8 : Int32)) + x1) x12).bind fun m13 => some m13)))) : Option (Mm)).bind fun y3 => (ast y3 114 512 ((a1 + (47 : Int32)) + a2) 2).bind fun m14 => (ald m14 114 512 (a1 + (74 : Int32))).bind fun x15 => (ast m14 114 512 (a1 + (74 : Int32)) (x15 - (1 : Int32))).bind fun m16 => some m16
set_option maxHeartbeats 4000000 in
set_option maxRecDepth 100000 in
theorem ct_X9_ends (F : Nat) {n : Nat} (hn : 135 ≤ n) (P D : Nat) (T : Option Nat) (m : Mm) (a1 : Int32) (a2 : Int32) : Ct yX9_ends cX9_ends 4 none 0 0 [.ref 113, .int a1, .int a2] n n m (RF P D T) (rV (RF P D T) (f_X9_ends m a1 a2)) := by
  refine Ct.ofV (own := RX9) (nm := "ends") [(0, .ref 113), (1, .int a1), (2, .int a2)] (by decide) (Nat.le_of_ble_eq_true rfl) rfl rfl rfl ?_
  unfold f_X9_ends
  refine J_aload_n 0 0 113 dX9_ends_0 rfl rfl ?_
  refine J_getR 113 9 0 114 dX9_ends_1 fl_9_7 rfl rfl (Nat.lt_of_lt_of_le (Nat.le_of_ble_eq_true rfl) hn) rfl ?_
  refine J_iload_n 1 1 a1 dX9_ends_4 rfl rfl ?_
  refine J_bipush 101 dX9_ends_5 (by decide) ?_
  refine J_iadd dX9_ends_7 ?_
  refine J_iload_n 2 2 a2 dX9_ends_8 rfl rfl ?_
  refine J_iadd dX9_ends_9 ?_
  refine J_iald 114 512 dX9_ends_10 rfl (Nat.lt_of_lt_of_le (Nat.le_of_ble_eq_true rfl) hn) (fun x1 => ?_)
  refine J_istore_n 3 [(3, .int x1), (0, .ref 113), (1, .int a1), (2, .int a2)] dX9_ends_11 rfl (by decide) rfl ?_
  refine J_aload_n 0 1 113 dX9_ends_12 rfl rfl ?_
  refine J_getR 113 9 0 114 dX9_ends_13 fl_9_7 rfl rfl (Nat.lt_of_lt_of_le (Nat.le_of_ble_eq_true rfl) hn) rfl ?_
  refine J_iload_n 1 2 a1 dX9_ends_16 rfl rfl ?_
  refine J_bipush 89 dX9_ends_17 (by decide) ?_
  refine J_iadd dX9_ends_19 ?_
  refine J_iload_n 2 3 a2 dX9_ends_20 rfl rfl ?_
  refine J_iadd dX9_ends_21 ?_
  refine J_iald 114 512 dX9_ends_22 rfl (Nat.lt_of_lt_of_le (Nat.le_of_ble_eq_true rfl) hn) (fun x2 => ?_)
  refine J_seqJ 180 (fun y3 : Mm => [(0, .ref 113), (1, .int a1), (2, .int a2)]) (fun y3 => []) (fun y3 => y3) (fun y3 => ?_) (fun k1 hEy3 => ?_)
  · refine J_aload_n 0 0 113 dX9_ends_180 rfl rfl ?_
    refine J_getR 113 9 0 114 dX9_ends_181 fl_9_7 rfl rfl (Nat.lt_of_lt_of_le (Nat.le_of_ble_eq_true rfl) hn) rfl ?_
    refine J_iload_n 1 1 a1 dX9_ends_184 rfl rfl ?_
    refine J_bipush 47 dX9_ends_185 (by decide) ?_
    refine J_iadd dX9_ends_187 ?_
    refine J_iload_n 2 2 a2 dX9_ends_188 rfl rfl ?_
    refine J_iadd dX9_ends_189 ?_
    refine J_iconst 2 dX9_ends_190 (by decide) ?_
    refine J_iast 114 512 dX9_ends_191 rfl (Nat.lt_of_lt_of_le (Nat.le_of_ble_eq_true rfl) hn) (fun m14 => ?_)
    refine J_aload_n 0 0 113 dX9_ends_192 rfl rfl ?_
    refine J_getR 113 9 0 114 dX9_ends_193 fl_9_7 rfl rfl (Nat.lt_of_lt_of_le (Nat.le_of_ble_eq_true rfl) hn) rfl ?_
    refine J_iload_n 1 1 a1 dX9_ends_196 rfl rfl ?_
    refine J_bipush 74 dX9_ends_197 (by decide) ?_
    refine J_iadd dX9_ends_199 ?_
    refine J_dup2 dX9_ends_200 rfl rfl ?_
    refine J_iald 114 512 dX9_ends_201 rfl (Nat.lt_of_lt_of_le (Nat.le_of_ble_eq_true rfl) hn) (fun x15 => ?_)
    refine J_iconst 1 dX9_ends_202 (by decide) ?_
    refine J_isub dX9_ends_203 ?_
    refine J_iast 114 512 dX9_ends_204 rfl (Nat.lt_of_lt_of_le (Nat.le_of_ble_eq_true rfl) hn) (fun m16 => ?_)
    exact J_vretV dX9_ends_205 rfl rfl
  · refine J_split (c1 := 0) (fun hs23_0 => ?_) (fun hs23_0 => ?_)
    · refine J_tsIn 52 hs23_0 dX9_ends_23 (by decide) (by decide) rfl (by decide) ?_
      refine J_aload_n 0 1 113 dX9_ends_52 rfl rfl ?_
      refine J_getR 113 9 0 114 dX9_ends_53 fl_9_7 rfl rfl (Nat.lt_of_lt_of_le (Nat.le_of_ble_eq_true rfl) hn) rfl ?_
      refine J_iload_n 1 2 a1 dX9_ends_56 rfl rfl ?_
      refine J_bipush 16 dX9_ends_57 (by decide) ?_
      refine J_iadd dX9_ends_59 ?_
      refine J_iload_n 3 0 x1 dX9_ends_60 rfl rfl ?_
      refine J_iadd dX9_ends_61 ?_
      refine J_iconst 0 dX9_ends_62 (by decide) ?_
      refine J_iast 114 512 dX9_ends_63 rfl (Nat.lt_of_lt_of_le (Nat.le_of_ble_eq_true rfl) hn) (fun m4 => ?_)
      refine J_aload_n 0 1 113 dX9_ends_64 rfl rfl ?_
      refine J_getR 113 9 0 114 dX9_ends_65 fl_9_7 rfl rfl (Nat.lt_of_lt_of_le (Nat.le_of_ble_eq_true rfl) hn) rfl ?_
      refine J_iload_n 1 2 a1 dX9_ends_68 rfl rfl ?_
      refine J_bipush 26 dX9_ends_69 (by decide) ?_
      refine J_iadd dX9_ends_71 ?_
      refine J_iload_n 3 0 x1 dX9_ends_72 rfl rfl ?_
      refine J_iadd dX9_ends_73 ?_
      refine J_iconst 0 dX9_ends_74 (by decide) ?_
      refine J_iast 114 512 dX9_ends_75 rfl (Nat.lt_of_lt_of_le (Nat.le_of_ble_eq_true rfl) hn) (fun m5 => ?_)
      refine J_goto 180 dX9_ends_76 (by decide) ?_
      exact J_lv [1, 2, 3] rfl (hEy3 m5)
    · refine J_split (c1 := 1) (fun hs23_1 => ?_) (fun hs23_1 => ?_)
      · refine J_tsIn 79 hs23_1 dX9_ends_23 (by decide) (by decide) rfl (by decide) ?_
        refine J_aload_n 0 1 113 dX9_ends_79 rfl rfl ?_
        refine J_getR 113 9 0 114 dX9_ends_80 fl_9_7 rfl rfl (Nat.lt_of_lt_of_le (Nat.le_of_ble_eq_true rfl) hn) rfl ?_
        refine J_iload_n 1 2 a1 dX9_ends_83 rfl rfl ?_
        refine J_bipush 16 dX9_ends_84 (by decide) ?_
        refine J_iadd dX9_ends_86 ?_
        refine J_iload_n 3 0 x1 dX9_ends_87 rfl rfl ?_
        refine J_iadd dX9_ends_88 ?_
        refine J_iconst 1 dX9_ends_89 (by decide) ?_
        refine J_iast 114 512 dX9_ends_90 rfl (Nat.lt_of_lt_of_le (Nat.le_of_ble_eq_true rfl) hn) (fun m6 => ?_)
        refine J_aload_n 0 1 113 dX9_ends_91 rfl rfl ?_
        refine J_getR 113 9 0 114 dX9_ends_92 fl_9_7 rfl rfl (Nat.lt_of_lt_of_le (Nat.le_of_ble_eq_true rfl) hn) rfl ?_
        refine J_iload_n 1 2 a1 dX9_ends_95 rfl rfl ?_
        refine J_bipush 26 dX9_ends_96 (by decide) ?_
        refine J_iadd dX9_ends_98 ?_
        refine J_iload_n 3 0 x1 dX9_ends_99 rfl rfl ?_
        refine J_iadd dX9_ends_100 ?_
        refine J_iconst 0 dX9_ends_101 (by decide) ?_
        refine J_iast 114 512 dX9_ends_102 rfl (Nat.lt_of_lt_of_le (Nat.le_of_ble_eq_true rfl) hn) (fun m7 => ?_)
        refine J_goto 180 dX9_ends_103 (by decide) ?_
        exact J_lv [1, 2, 3] rfl (hEy3 m7)
      · refine J_split (c1 := 2) (fun hs23_2 => ?_) (fun hs23_2 => ?_)
        · refine J_tsIn 106 hs23_2 dX9_ends_23 (by decide) (by decide) rfl (by decide) ?_
          refine J_aload_n 0 1 113 dX9_ends_106 rfl rfl ?_
          refine J_getR 113 9 0 114 dX9_ends_107 fl_9_7 rfl rfl (Nat.lt_of_lt_of_le (Nat.le_of_ble_eq_true rfl) hn) rfl ?_
          refine J_iload_n 1 2 a1 dX9_ends_110 rfl rfl ?_
          refine J_bipush 36 dX9_ends_111 (by decide) ?_
          refine J_iadd dX9_ends_113 ?_
          refine J_iload_n 3 0 x1 dX9_ends_114 rfl rfl ?_
          refine J_iadd dX9_ends_115 ?_
          refine J_iconst 1 dX9_ends_116 (by decide) ?_
          refine J_iast 114 512 dX9_ends_117 rfl (Nat.lt_of_lt_of_le (Nat.le_of_ble_eq_true rfl) hn) (fun m8 => ?_)
          refine J_aload_n 0 1 113 dX9_ends_118 rfl rfl ?_
          refine J_getR 113 9 0 114 dX9_ends_119 fl_9_7 rfl rfl (Nat.lt_of_lt_of_le (Nat.le_of_ble_eq_true rfl) hn) rfl ?_
          refine J_iload_n 1 2 a1 dX9_ends_122 rfl rfl ?_
          refine J_bipush 40 dX9_ends_123 (by decide) ?_
          refine J_iadd dX9_ends_125 ?_
          refine J_iload_n 3 0 x1 dX9_ends_126 rfl rfl ?_
          refine J_iadd dX9_ends_127 ?_
          refine J_iconst 0 dX9_ends_128 (by decide) ?_
          refine J_iast 114 512 dX9_ends_129 rfl (Nat.lt_of_lt_of_le (Nat.le_of_ble_eq_true rfl) hn) (fun m9 => ?_)
          refine J_goto 180 dX9_ends_130 (by decide) ?_
          exact J_lv [1, 2, 3] rfl (hEy3 m9)
        · refine J_split (c1 := 3) (fun hs23_3 => ?_) (fun hs23_3 => ?_)
          · refine J_tsIn 133 hs23_3 dX9_ends_23 (by decide) (by decide) rfl (by decide) ?_
            refine J_aload_n 0 1 113 dX9_ends_133 rfl rfl ?_
            refine J_getR 113 9 0 114 dX9_ends_134 fl_9_7 rfl rfl (Nat.lt_of_lt_of_le (Nat.le_of_ble_eq_true rfl) hn) rfl ?_
            refine J_iload_n 1 2 a1 dX9_ends_137 rfl rfl ?_
            refine J_bipush 44 dX9_ends_138 (by decide) ?_
            refine J_iadd dX9_ends_140 ?_
            refine J_iload_n 3 0 x1 dX9_ends_141 rfl rfl ?_
            refine J_iadd dX9_ends_142 ?_
            refine J_aload_n 0 1 113 dX9_ends_143 rfl rfl ?_
            refine J_getR 113 9 0 114 dX9_ends_144 fl_9_7 rfl rfl (Nat.lt_of_lt_of_le (Nat.le_of_ble_eq_true rfl) hn) rfl ?_
            refine J_iload_n 1 2 a1 dX9_ends_147 rfl rfl ?_
            refine J_bipush 113 dX9_ends_148 (by decide) ?_
            refine J_iadd dX9_ends_150 ?_
            refine J_iload_n 2 3 a2 dX9_ends_151 rfl rfl ?_
            refine J_iadd dX9_ends_152 ?_
            refine J_iald 114 512 dX9_ends_153 rfl (Nat.lt_of_lt_of_le (Nat.le_of_ble_eq_true rfl) hn) (fun x10 => ?_)
            refine J_iast 114 512 dX9_ends_154 rfl (Nat.lt_of_lt_of_le (Nat.le_of_ble_eq_true rfl) hn) (fun m11 => ?_)
            refine J_goto 180 dX9_ends_155 (by decide) ?_
            exact J_lv [1, 2, 3] rfl (hEy3 m11)
          · refine J_tsOut 158 dX9_ends_23 (ts_out [0, 1, 2, 3] (by decide) (by simp only [List.mem_cons, List.not_mem_nil, or_false, forall_eq_or_imp, forall_eq]; exact ⟨hs23_0, hs23_1, hs23_2, hs23_3⟩)) (by decide) ?_
            refine J_aload_n 0 1 113 dX9_ends_158 rfl rfl ?_
            refine J_getR 113 9 0 114 dX9_ends_159 fl_9_7 rfl rfl (Nat.lt_of_lt_of_le (Nat.le_of_ble_eq_true rfl) hn) rfl ?_
            refine J_iload_n 1 2 a1 dX9_ends_162 rfl rfl ?_
            refine J_bipush 8 dX9_ends_163 (by decide) ?_
            refine J_iadd dX9_ends_165 ?_
            refine J_iload_n 3 0 x1 dX9_ends_166 rfl rfl ?_
            refine J_iadd dX9_ends_167 ?_
            refine J_aload_n 0 1 113 dX9_ends_168 rfl rfl ?_
            refine J_getR 113 9 0 114 dX9_ends_169 fl_9_7 rfl rfl (Nat.lt_of_lt_of_le (Nat.le_of_ble_eq_true rfl) hn) rfl ?_
            refine J_iload_n 1 2 a1 dX9_ends_172 rfl rfl ?_
            refine J_bipush 113 dX9_ends_173 (by decide) ?_
            refine J_iadd dX9_ends_175 ?_
            refine J_iload_n 2 3 a2 dX9_ends_176 rfl rfl ?_
            refine J_iadd dX9_ends_177 ?_
            refine J_iald 114 512 dX9_ends_178 rfl (Nat.lt_of_lt_of_le (Nat.le_of_ble_eq_true rfl) hn) (fun x12 => ?_)
            refine J_iast 114 512 dX9_ends_179 rfl (Nat.lt_of_lt_of_le (Nat.le_of_ble_eq_true rfl) hn) (fun m13 => ?_)
            exact J_lv [1, 2, 3] rfl (hEy3 m13)
def b_X9_ordersGo_2 (a1 : Int32) (t1 : Int32 × Mm) : Option ((Int32 × Mm) ⊕ (Mm)) :=
  (ald t1.2 114 512 (a1 + (76 : Int32))).bind fun x3 => if x3 ≤ t1.1 then (some (Sum.inr t1.2)) else ((ald t1.2 114 512 ((a1 + (47 : Int32)) + t1.1)).bind fun x4 => (if x4 = (1 : Int32) then ((ald t1.2 114 512 ((a1 + (59 : Int32)) + t1.1)).bind fun x6 => (ald t1.2 114 512 (a1 + (71 : Int32))).bind fun x7 => if x6 = x7 then ((f_X9_ends t1.2 a1 t1.1).bind fun m9 => some m9) else (some t1.2)) else (some t1.2) : Option (Mm)).bind fun y5 => some (Sum.inl (t1.1 + 1, y5)))
def b_X9_ordersGo_67 (a1 : Int32) (t10 : Int32 × Mm) : Option ((Int32 × Mm) ⊕ (Mm)) :=
  (ald t10.2 114 512 (a1 + (76 : Int32))).bind fun x12 => if x12 ≤ t10.1 then (some (Sum.inr t10.2)) else ((ald t10.2 114 512 ((a1 + (47 : Int32)) + t10.1)).bind fun x13 => (if x13 = 0 then ((ald t10.2 114 512 ((a1 + (77 : Int32)) + t10.1)).bind fun x15 => (ald t10.2 114 512 (a1 + (71 : Int32))).bind fun x16 => if x15 = x16 then ((f_X9_canBegin t10.2 a1 t10.1).bind fun x17 => if x17 = 0 then ((ast t10.2 114 512 ((a1 + (47 : Int32)) + t10.1) 3).bind fun m19 => (ald m19 114 512 (a1 + (75 : Int32))).bind fun x20 => (ast m19 114 512 (a1 + (75 : Int32)) (x20 + (1 : Int32))).bind fun m21 => some m21) else ((f_X9_begins t10.2 a1 t10.1).bind fun m23 => some m23)) else (some t10.2)) else (some t10.2) : Option (Mm)).bind fun y14 => some (Sum.inl (t10.1 + 1, y14)))
def f_X9_ordersGo (F : Nat) (m : Mm) (a1 : Int32) : Option (Mm) :=
  (iter F (b_X9_ordersGo_2 a1) ((0, m) : Int32 × Mm)).bind (fun e2 : Mm => (iter F (b_X9_ordersGo_67 a1) ((0, e2) : Int32 × Mm)).bind (fun e11 : Mm => some e11))
set_option maxHeartbeats 4000000 in
set_option maxRecDepth 100000 in
theorem ct_X9_ordersGo (F : Nat) {n : Nat} (hn : 135 ≤ n) (P D : Nat) (T : Option Nat) (m : Mm) (a1 : Int32) : Ct yX9_ordersGo cX9_ordersGo 3 none 2 48 [.ref 113, .int a1] n n m (RF P D T) (rV (RF P D T) (f_X9_ordersGo F m a1)) := by
  refine Ct.ofV (own := RX9) (nm := "ordersGo") [(0, .ref 113), (1, .int a1)] (by decide) (Nat.le_of_ble_eq_true rfl) rfl rfl rfl ?_
  unfold f_X9_ordersGo
  refine J_iconst 0 dX9_ordersGo_0 (by decide) ?_
  refine J_istore_n 2 [(2, .int 0), (0, .ref 113), (1, .int a1)] dX9_ordersGo_1 rfl (by decide) rfl ?_
  refine J_lv [1, 2, 0] rfl ?_
  refine J_loop (pc := 2) (fun t1 : Int32 × Mm => [(0, .ref 113), (1, .int a1), (2, .int t1.1)]) (fun t1 => t1.2) (fun _ => 65) (fun e2 => [(0, .ref 113), (1, .int a1)]) (fun _ => []) (fun e2 => e2) ?_ (fun t1 k1 hBt1 hXt1 => ?_) F ((0, m))
  · refine fun e2 => ?_
    refine J_iconst 0 dX9_ordersGo_65 (by decide) ?_
    refine J_istore_n 2 [(2, .int 0), (0, .ref 113), (1, .int a1)] dX9_ordersGo_66 rfl (by decide) rfl ?_
    refine J_lv [1, 2, 0] rfl ?_
    refine J_loop (pc := 67) (fun t10 : Int32 × Mm => [(0, .ref 113), (1, .int a1), (2, .int t10.1)]) (fun t10 => t10.2) (fun _ => 166) (fun e11 => []) (fun _ => []) (fun e11 => e11) ?_ (fun t10 k1 hBt10 hXt10 => ?_) F ((0, e2))
    · refine fun e11 => ?_
      exact J_vretV dX9_ordersGo_166 rfl rfl
    · unfold b_X9_ordersGo_67
      refine J_iload_n 2 2 t10.1 dX9_ordersGo_67 rfl rfl ?_
      refine J_aload_n 0 0 113 dX9_ordersGo_68 rfl rfl ?_
      refine J_getR 113 9 0 114 dX9_ordersGo_69 fl_9_7 rfl rfl (Nat.lt_of_lt_of_le (Nat.le_of_ble_eq_true rfl) hn) rfl ?_
      refine J_iload_n 1 1 a1 dX9_ordersGo_72 rfl rfl ?_
      refine J_bipush 76 dX9_ordersGo_73 (by decide) ?_
      refine J_iadd dX9_ordersGo_75 ?_
      refine J_iald 114 512 dX9_ordersGo_76 rfl (Nat.lt_of_lt_of_le (Nat.le_of_ble_eq_true rfl) hn) (fun x12 => ?_)
      refine J_icmp_ge 166 dX9_ordersGo_77 (by decide) ?_ ?_
      · exact J_lv [] rfl (hXt10 t10.2)
      · refine J_aload_n 0 0 113 dX9_ordersGo_80 rfl rfl ?_
        refine J_getR 113 9 0 114 dX9_ordersGo_81 fl_9_7 rfl rfl (Nat.lt_of_lt_of_le (Nat.le_of_ble_eq_true rfl) hn) rfl ?_
        refine J_iload_n 1 1 a1 dX9_ordersGo_84 rfl rfl ?_
        refine J_bipush 47 dX9_ordersGo_85 (by decide) ?_
        refine J_iadd dX9_ordersGo_87 ?_
        refine J_iload_n 2 2 t10.1 dX9_ordersGo_88 rfl rfl ?_
        refine J_iadd dX9_ordersGo_89 ?_
        refine J_iald 114 512 dX9_ordersGo_90 rfl (Nat.lt_of_lt_of_le (Nat.le_of_ble_eq_true rfl) hn) (fun x13 => ?_)
        refine J_seqJ 160 (fun y14 : Mm => [(0, .ref 113), (1, .int a1), (2, .int t10.1)]) (fun y14 => []) (fun y14 => y14) (fun y14 => ?_) (fun k1 hEy14 => ?_)
        · refine J_iinc 2 2 [(2, .int (t10.1 + 1)), (0, .ref 113), (1, .int a1)] t10.1 (t10.1 + 1) dX9_ordersGo_160 rfl rfl (by decide) rfl ?_
          refine J_goto 67 dX9_ordersGo_163 (by decide) ?_
          exact J_lv [1, 2, 0] rfl (hBt10 (t10.1 + 1, y14))
        · refine J_if_ne 160 dX9_ordersGo_91 (by decide) ?_ ?_
          · exact J_lv [0, 1, 2] rfl (hEy14 t10.2)
          · refine J_aload_n 0 0 113 dX9_ordersGo_94 rfl rfl ?_
            refine J_getR 113 9 0 114 dX9_ordersGo_95 fl_9_7 rfl rfl (Nat.lt_of_lt_of_le (Nat.le_of_ble_eq_true rfl) hn) rfl ?_
            refine J_iload_n 1 1 a1 dX9_ordersGo_98 rfl rfl ?_
            refine J_bipush 77 dX9_ordersGo_99 (by decide) ?_
            refine J_iadd dX9_ordersGo_101 ?_
            refine J_iload_n 2 2 t10.1 dX9_ordersGo_102 rfl rfl ?_
            refine J_iadd dX9_ordersGo_103 ?_
            refine J_iald 114 512 dX9_ordersGo_104 rfl (Nat.lt_of_lt_of_le (Nat.le_of_ble_eq_true rfl) hn) (fun x15 => ?_)
            refine J_aload_n 0 0 113 dX9_ordersGo_105 rfl rfl ?_
            refine J_getR 113 9 0 114 dX9_ordersGo_106 fl_9_7 rfl rfl (Nat.lt_of_lt_of_le (Nat.le_of_ble_eq_true rfl) hn) rfl ?_
            refine J_iload_n 1 1 a1 dX9_ordersGo_109 rfl rfl ?_
            refine J_bipush 71 dX9_ordersGo_110 (by decide) ?_
            refine J_iadd dX9_ordersGo_112 ?_
            refine J_iald 114 512 dX9_ordersGo_113 rfl (Nat.lt_of_lt_of_le (Nat.le_of_ble_eq_true rfl) hn) (fun x16 => ?_)
            refine J_icmp_ne 160 dX9_ordersGo_114 (by decide) ?_ ?_
            · exact J_lv [0, 1, 2] rfl (hEy14 t10.2)
            · refine J_aload_n 0 0 113 dX9_ordersGo_117 rfl rfl ?_
              refine J_iload_n 1 1 a1 dX9_ordersGo_118 rfl rfl ?_
              refine J_iload_n 2 2 t10.1 dX9_ordersGo_119 rfl rfl ?_
              refine J_callVP 113 9 2 [.int a1, .int t10.1] dX9_ordersGo_120 mv_X9_canBegin mv_X9_canBeginv lk_9_240 (ct_X9_canBegin F hn P D T t10.2 a1 t10.1) rfl rfl (by decide) rfl (Nat.lt_of_lt_of_le (Nat.le_of_ble_eq_true rfl) hn) ⟨by decide, by decide⟩ (Nat.le_of_ble_eq_true rfl) (fun x17 => ?_)
              refine J_if_eq 135 dX9_ordersGo_123 (by decide) ?_ ?_
              · refine J_aload_n 0 0 113 dX9_ordersGo_135 rfl rfl ?_
                refine J_getR 113 9 0 114 dX9_ordersGo_136 fl_9_7 rfl rfl (Nat.lt_of_lt_of_le (Nat.le_of_ble_eq_true rfl) hn) rfl ?_
                refine J_iload_n 1 1 a1 dX9_ordersGo_139 rfl rfl ?_
                refine J_bipush 47 dX9_ordersGo_140 (by decide) ?_
                refine J_iadd dX9_ordersGo_142 ?_
                refine J_iload_n 2 2 t10.1 dX9_ordersGo_143 rfl rfl ?_
                refine J_iadd dX9_ordersGo_144 ?_
                refine J_iconst 3 dX9_ordersGo_145 (by decide) ?_
                refine J_iast 114 512 dX9_ordersGo_146 rfl (Nat.lt_of_lt_of_le (Nat.le_of_ble_eq_true rfl) hn) (fun m19 => ?_)
                refine J_aload_n 0 0 113 dX9_ordersGo_147 rfl rfl ?_
                refine J_getR 113 9 0 114 dX9_ordersGo_148 fl_9_7 rfl rfl (Nat.lt_of_lt_of_le (Nat.le_of_ble_eq_true rfl) hn) rfl ?_
                refine J_iload_n 1 1 a1 dX9_ordersGo_151 rfl rfl ?_
                refine J_bipush 75 dX9_ordersGo_152 (by decide) ?_
                refine J_iadd dX9_ordersGo_154 ?_
                refine J_dup2 dX9_ordersGo_155 rfl rfl ?_
                refine J_iald 114 512 dX9_ordersGo_156 rfl (Nat.lt_of_lt_of_le (Nat.le_of_ble_eq_true rfl) hn) (fun x20 => ?_)
                refine J_iconst 1 dX9_ordersGo_157 (by decide) ?_
                refine J_iadd dX9_ordersGo_158 ?_
                refine J_iast 114 512 dX9_ordersGo_159 rfl (Nat.lt_of_lt_of_le (Nat.le_of_ble_eq_true rfl) hn) (fun m21 => ?_)
                exact J_lv [0, 1, 2] rfl (hEy14 m21)
              · refine J_aload_n 0 0 113 dX9_ordersGo_126 rfl rfl ?_
                refine J_iload_n 1 1 a1 dX9_ordersGo_127 rfl rfl ?_
                refine J_iload_n 2 2 t10.1 dX9_ordersGo_128 rfl rfl ?_
                refine J_callVV 113 9 2 [.int a1, .int t10.1] dX9_ordersGo_129 mv_X9_begins mv_X9_beginsv lk_9_244 (ct_X9_begins F hn P D T t10.2 a1 t10.1) rfl rfl (by decide) rfl (Nat.lt_of_lt_of_le (Nat.le_of_ble_eq_true rfl) hn) ⟨by decide, by decide⟩ (Nat.le_of_ble_eq_true rfl) (fun m23 => ?_)
                refine J_goto 160 dX9_ordersGo_132 (by decide) ?_
                exact J_lv [0, 1, 2] rfl (hEy14 m23)
  · unfold b_X9_ordersGo_2
    refine J_iload_n 2 2 t1.1 dX9_ordersGo_2 rfl rfl ?_
    refine J_aload_n 0 0 113 dX9_ordersGo_3 rfl rfl ?_
    refine J_getR 113 9 0 114 dX9_ordersGo_4 fl_9_7 rfl rfl (Nat.lt_of_lt_of_le (Nat.le_of_ble_eq_true rfl) hn) rfl ?_
    refine J_iload_n 1 1 a1 dX9_ordersGo_7 rfl rfl ?_
    refine J_bipush 76 dX9_ordersGo_8 (by decide) ?_
    refine J_iadd dX9_ordersGo_10 ?_
    refine J_iald 114 512 dX9_ordersGo_11 rfl (Nat.lt_of_lt_of_le (Nat.le_of_ble_eq_true rfl) hn) (fun x3 => ?_)
    refine J_icmp_ge 65 dX9_ordersGo_12 (by decide) ?_ ?_
    · exact J_lv [0, 1] rfl (hXt1 t1.2)
    · refine J_aload_n 0 0 113 dX9_ordersGo_15 rfl rfl ?_
      refine J_getR 113 9 0 114 dX9_ordersGo_16 fl_9_7 rfl rfl (Nat.lt_of_lt_of_le (Nat.le_of_ble_eq_true rfl) hn) rfl ?_
      refine J_iload_n 1 1 a1 dX9_ordersGo_19 rfl rfl ?_
      refine J_bipush 47 dX9_ordersGo_20 (by decide) ?_
      refine J_iadd dX9_ordersGo_22 ?_
      refine J_iload_n 2 2 t1.1 dX9_ordersGo_23 rfl rfl ?_
      refine J_iadd dX9_ordersGo_24 ?_
      refine J_iald 114 512 dX9_ordersGo_25 rfl (Nat.lt_of_lt_of_le (Nat.le_of_ble_eq_true rfl) hn) (fun x4 => ?_)
      refine J_iconst 1 dX9_ordersGo_26 (by decide) ?_
      refine J_seqJ 59 (fun y5 : Mm => [(0, .ref 113), (1, .int a1), (2, .int t1.1)]) (fun y5 => []) (fun y5 => y5) (fun y5 => ?_) (fun k1 hEy5 => ?_)
      · refine J_iinc 2 2 [(2, .int (t1.1 + 1)), (0, .ref 113), (1, .int a1)] t1.1 (t1.1 + 1) dX9_ordersGo_59 rfl rfl (by decide) rfl ?_
        refine J_goto 2 dX9_ordersGo_62 (by decide) ?_
        exact J_lv [1, 2, 0] rfl (hBt1 (t1.1 + 1, y5))
      · refine J_icmp_ne 59 dX9_ordersGo_27 (by decide) ?_ ?_
        · exact J_lv [0, 1, 2] rfl (hEy5 t1.2)
        · refine J_aload_n 0 0 113 dX9_ordersGo_30 rfl rfl ?_
          refine J_getR 113 9 0 114 dX9_ordersGo_31 fl_9_7 rfl rfl (Nat.lt_of_lt_of_le (Nat.le_of_ble_eq_true rfl) hn) rfl ?_
          refine J_iload_n 1 1 a1 dX9_ordersGo_34 rfl rfl ?_
          refine J_bipush 59 dX9_ordersGo_35 (by decide) ?_
          refine J_iadd dX9_ordersGo_37 ?_
          refine J_iload_n 2 2 t1.1 dX9_ordersGo_38 rfl rfl ?_
          refine J_iadd dX9_ordersGo_39 ?_
          refine J_iald 114 512 dX9_ordersGo_40 rfl (Nat.lt_of_lt_of_le (Nat.le_of_ble_eq_true rfl) hn) (fun x6 => ?_)
          refine J_aload_n 0 0 113 dX9_ordersGo_41 rfl rfl ?_
          refine J_getR 113 9 0 114 dX9_ordersGo_42 fl_9_7 rfl rfl (Nat.lt_of_lt_of_le (Nat.le_of_ble_eq_true rfl) hn) rfl ?_
          refine J_iload_n 1 1 a1 dX9_ordersGo_45 rfl rfl ?_
          refine J_bipush 71 dX9_ordersGo_46 (by decide) ?_
          refine J_iadd dX9_ordersGo_48 ?_
          refine J_iald 114 512 dX9_ordersGo_49 rfl (Nat.lt_of_lt_of_le (Nat.le_of_ble_eq_true rfl) hn) (fun x7 => ?_)
          refine J_icmp_ne 59 dX9_ordersGo_50 (by decide) ?_ ?_
          · exact J_lv [0, 1, 2] rfl (hEy5 t1.2)
          · refine J_aload_n 0 0 113 dX9_ordersGo_53 rfl rfl ?_
            refine J_iload_n 1 1 a1 dX9_ordersGo_54 rfl rfl ?_
            refine J_iload_n 2 2 t1.1 dX9_ordersGo_55 rfl rfl ?_
            refine J_callVV 113 9 2 [.int a1, .int t1.1] dX9_ordersGo_56 mv_X9_ends mv_X9_endsv lk_9_237 (ct_X9_ends F hn P D T t1.2 a1 t1.1) rfl rfl (by decide) rfl (Nat.lt_of_lt_of_le (Nat.le_of_ble_eq_true rfl) hn) ⟨by decide, by decide⟩ (Nat.le_of_ble_eq_true rfl) (fun m9 => ?_)
            exact J_lv [0, 1, 2] rfl (hEy5 m9)
def b_X9_allOf_4 (m : Mm) (a1 : Int32) (t1 : Int32 × Int32) : Option ((Int32 × Int32) ⊕ (Int32)) :=
  if (m 113 2) ≤ t1.2 then (some (Sum.inr t1.1)) else ((ald m 114 512 ((a1 + (0 : Int32)) + t1.2)).bind fun x3 => letv (t1.1 + x3) fun x4 => some (Sum.inl (x4, t1.2 + 1)))
def f_X9_allOf (F : Nat) (m : Mm) (a1 : Int32) : Option (Int32) :=
  (iter F (b_X9_allOf_4 m a1) ((0, 0) : Int32 × Int32)).bind (fun e2 : Int32 => some e2)
set_option maxHeartbeats 4000000 in
set_option maxRecDepth 100000 in
theorem ct_X9_allOf (F : Nat) {n : Nat} (hn : 135 ≤ n) (P D : Nat) (T : Option Nat) (m : Mm) (a1 : Int32) : Ct yX9_allOf cX9_allOf 4 (some .int) 0 0 [.ref 113, .int a1] n n m (RF P D T) (rP m (RF P D T) (f_X9_allOf F m a1)) := by
  refine Ct.ofP (own := RX9) (nm := "allOf") [(0, .ref 113), (1, .int a1)] (by decide) (Nat.le_of_ble_eq_true rfl) rfl rfl rfl ?_
  unfold f_X9_allOf
  refine J_iconst 0 dX9_allOf_0 (by decide) ?_
  refine J_istore_n 2 [(2, .int 0), (0, .ref 113), (1, .int a1)] dX9_allOf_1 rfl (by decide) rfl ?_
  refine J_iconst 0 dX9_allOf_2 (by decide) ?_
  refine J_istore_n 3 [(3, .int 0), (2, .int 0), (0, .ref 113), (1, .int a1)] dX9_allOf_3 rfl (by decide) rfl ?_
  refine J_lv [2, 3, 1, 0] rfl ?_
  refine J_loop (pc := 4) (fun t1 : Int32 × Int32 => [(0, .ref 113), (1, .int a1), (2, .int t1.1), (3, .int t1.2)]) (fun t1 => m) (fun _ => 31) (fun e2 => [(2, .int e2)]) (fun _ => []) (fun e2 => m) ?_ (fun t1 k1 hBt1 hXt1 => ?_) F ((0, 0))
  · refine fun e2 => ?_
    refine J_iload_n 2 0 e2 dX9_allOf_31 rfl rfl ?_
    exact J_iretP dX9_allOf_32 rfl rfl
  · unfold b_X9_allOf_4
    refine J_iload_n 3 3 t1.2 dX9_allOf_4 rfl rfl ?_
    refine J_aload_n 0 0 113 dX9_allOf_5 rfl rfl ?_
    refine J_getI 113 9 2 dX9_allOf_6 fl_9_93 rfl rfl (Nat.lt_of_lt_of_le (Nat.le_of_ble_eq_true rfl) hn) ?_
    refine J_icmp_ge 31 dX9_allOf_9 (by decide) ?_ ?_
    · exact J_lv [2] rfl (hXt1 t1.1)
    · refine J_iload_n 2 2 t1.1 dX9_allOf_12 rfl rfl ?_
      refine J_aload_n 0 0 113 dX9_allOf_13 rfl rfl ?_
      refine J_getR 113 9 0 114 dX9_allOf_14 fl_9_7 rfl rfl (Nat.lt_of_lt_of_le (Nat.le_of_ble_eq_true rfl) hn) rfl ?_
      refine J_iload_n 1 1 a1 dX9_allOf_17 rfl rfl ?_
      refine J_iconst 0 dX9_allOf_18 (by decide) ?_
      refine J_iadd dX9_allOf_19 ?_
      refine J_iload_n 3 3 t1.2 dX9_allOf_20 rfl rfl ?_
      refine J_iadd dX9_allOf_21 ?_
      refine J_iald 114 512 dX9_allOf_22 rfl (Nat.lt_of_lt_of_le (Nat.le_of_ble_eq_true rfl) hn) (fun x3 => ?_)
      refine J_iadd dX9_allOf_23 ?_
      refine J_let (fun x4 => ?_)
      refine J_istore_n 2 [(2, .int x4), (0, .ref 113), (1, .int a1), (3, .int t1.2)] dX9_allOf_24 rfl (by decide) rfl ?_
      refine J_iinc 3 3 [(3, .int (t1.2 + 1)), (2, .int x4), (0, .ref 113), (1, .int a1)] t1.2 (t1.2 + 1) dX9_allOf_25 rfl rfl (by decide) rfl ?_
      refine J_goto 4 dX9_allOf_28 (by decide) ?_
      exact J_lv [2, 3, 1, 0] rfl (hBt1 (x4, t1.2 + 1))
def f_X9_size (a0 : Int32) : Option (Int32) :=
  if 0 ≤ a0 then (some a0) else (some (0 - a0))
set_option maxHeartbeats 4000000 in
set_option maxRecDepth 100000 in
theorem ct_X9_size (F : Nat) {n : Nat} (hn : 135 ≤ n) (P D : Nat) (T : Option Nat) (m : Mm) (a0 : Int32) : Ct yX9_size cX9_size 1 (some .int) 0 0 [.int a0] n n m (RF P D T) (rP m (RF P D T) (f_X9_size a0)) := by
  refine Ct.ofP (own := RX9) (nm := "size") [(0, .int a0)] (by decide) (Nat.le_of_ble_eq_true rfl) rfl rfl rfl ?_
  unfold f_X9_size
  refine J_iload_n 0 0 a0 dX9_size_0 rfl rfl ?_
  refine J_if_ge 9 dX9_size_1 (by decide) ?_ ?_
  · refine J_iload_n 0 0 a0 dX9_size_9 rfl rfl ?_
    exact J_iretP dX9_size_10 rfl rfl
  · refine J_iload_n 0 0 a0 dX9_size_4 rfl rfl ?_
    refine J_ineg dX9_size_5 ?_
    refine J_goto 10 dX9_size_6 (by decide) ?_
    exact J_iretP dX9_size_10 rfl rfl

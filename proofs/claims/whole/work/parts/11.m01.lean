theorem fl_2_15 : FL RX2 15 2 5 := ⟨by decide, by decide, tb 42 (by decide +kernel) rfl⟩
theorem fl_2_23 : FL RX2 23 2 6 := ⟨by decide, by decide, tb 43 (by decide +kernel) rfl⟩
theorem fl_2_33 : FL RX2 33 2 3 := ⟨by decide, by decide, tb 39 (by decide +kernel) rfl⟩
theorem fl_2_36 : FL RX2 36 2 9 := ⟨by decide, by decide, tb 46 (by decide +kernel) rfl⟩
theorem fl_2_68 : FL RX2 68 2 2 := ⟨by decide, by decide, tb 37 (by decide +kernel) rfl⟩
theorem fl_2_74 : FL RX2 74 2 8 := ⟨by decide, by decide, tb 45 (by decide +kernel) rfl⟩
theorem fl_2_77 : FL RX2 77 2 7 := ⟨by decide, by decide, tb 44 (by decide +kernel) rfl⟩
theorem fl_2_80 : FL RX2 80 2 4 := ⟨by decide, by decide, tb 41 (by decide +kernel) rfl⟩
theorem lk_2_113 : Cond.methodLink RX2 113 yJ0_length_8abf5 ∈ TBg := tb 514 (by decide +kernel) rfl
theorem lk_2_117 : Cond.methodLink RX2 117 yJ0_charAt_5068e ∈ TBg := tb 524 (by decide +kernel) rfl
theorem lk_2_30 : Cond.methodLink RX2 30 yX2_nextToken ∈ TBg := tb 490 (by decide +kernel) rfl
theorem lk_2_64 : Cond.methodLink RX2 64 yX2_refuse ∈ TBg := tb 501 (by decide +kernel) rfl
theorem lk_2_71 : Cond.methodLink RX2 71 yX1_clear ∈ TBg := tb 489 (by decide +kernel) rfl
theorem lk_2_83 : Cond.methodLink RX2 83 yX2_endOfRun ∈ TBg := tb 494 (by decide +kernel) rfl
theorem lk_2_93 : Cond.methodLink RX2 93 yX2_spells ∈ TBg := tb 510 (by decide +kernel) rfl
theorem mv_X1_clear : MV yX1_clear cX1_clear 1 none 0 := ⟨tb 395 (by decide +kernel) rfl, tb 8 (by decide +kernel) rfl, by decide +kernel⟩
theorem mv_X1_clearv : Cond.instanceMethod yX1_clear ∈ TBg ∧ Cond.selects yX1_clear.cls yX1_clear yX1_clear ∈ TBg := ⟨tb 393 (by decide +kernel) rfl, tb 394 (by decide +kernel) rfl⟩
theorem mv_X2_endOfRun : MV yX2_endOfRun cX2_endOfRun 4 (some .int) 2 := ⟨tb 497 (by decide +kernel) rfl, tb 2 (by decide +kernel) rfl, by decide +kernel⟩
theorem mv_X2_endOfRunv : Cond.instanceMethod yX2_endOfRun ∈ TBg ∧ Cond.selects yX2_endOfRun.cls yX2_endOfRun yX2_endOfRun ∈ TBg := ⟨tb 496 (by decide +kernel) rfl, tbP (k := 10) 2 (by decide +kernel) rfl⟩
theorem mv_X2_nextToken : MV yX2_nextToken cX2_nextToken 1 none 0 := ⟨tb 493 (by decide +kernel) rfl, tb 2 (by decide +kernel) rfl, by decide +kernel⟩
theorem mv_X2_nextTokenv : Cond.instanceMethod yX2_nextToken ∈ TBg ∧ Cond.selects yX2_nextToken.cls yX2_nextToken yX2_nextToken ∈ TBg := ⟨tb 492 (by decide +kernel) rfl, tbP (k := 10) 1 (by decide +kernel) rfl⟩
theorem mv_X2_refuse : MV yX2_refuse cX2_refuse 2 none 1 := ⟨tb 504 (by decide +kernel) rfl, tb 2 (by decide +kernel) rfl, by decide +kernel⟩
theorem mv_X2_refusev : Cond.instanceMethod yX2_refuse ∈ TBg ∧ Cond.selects yX2_refuse.cls yX2_refuse yX2_refuse ∈ TBg := ⟨tb 503 (by decide +kernel) rfl, tbP (k := 10) 3 (by decide +kernel) rfl⟩
theorem mv_X2_spells : MV yX2_spells cX2_spells 3 (some .boolean) 1 := ⟨tb 513 (by decide +kernel) rfl, tb 2 (by decide +kernel) rfl, by decide +kernel⟩
theorem mv_X2_spellsv : Cond.instanceMethod yX2_spells ∈ TBg ∧ Cond.selects yX2_spells.cls yX2_spells yX2_spells ∈ TBg := ⟨tb 512 (by decide +kernel) rfl, tbP (k := 10) 5 (by decide +kernel) rfl⟩
theorem dX2_spells_0 : decode cX2_spells 0 = .ok (.aload_n 0, 1) := by decide +kernel
theorem dX2_spells_1 : decode cX2_spells 1 = .ok (.getfield 36, 3) := by decide +kernel
theorem dX2_spells_4 : decode cX2_spells 4 = .ok (.iconst 2, 1) := by decide +kernel
theorem dX2_spells_5 : decode cX2_spells 5 = .ok (.if_icmp .ne 19, 3) := by decide +kernel
theorem dX2_spells_8 : decode cX2_spells 8 = .ok (.aload_n 0, 1) := by decide +kernel
theorem dX2_spells_9 : decode cX2_spells 9 = .ok (.getfield 74, 3) := by decide +kernel
theorem dX2_spells_12 : decode cX2_spells 12 = .ok (.aload_n 0, 1) := by decide +kernel
theorem dX2_spells_13 : decode cX2_spells 13 = .ok (.getfield 77, 3) := by decide +kernel
theorem dX2_spells_16 : decode cX2_spells 16 = .ok (.isub, 1) := by decide +kernel
theorem dX2_spells_17 : decode cX2_spells 17 = .ok (.aload_n 1, 1) := by decide +kernel
theorem dX2_spells_18 : decode cX2_spells 18 = .ok (.invokevirtual 113, 3) := by decide +kernel
theorem dX2_spells_21 : decode cX2_spells 21 = .ok (.if_icmp .eq 5, 3) := by decide +kernel
theorem dX2_spells_24 : decode cX2_spells 24 = .ok (.iconst 0, 1) := by decide +kernel
theorem dX2_spells_25 : decode cX2_spells 25 = .ok (.ireturn, 1) := by decide +kernel
theorem dX2_spells_26 : decode cX2_spells 26 = .ok (.iconst 0, 1) := by decide +kernel
theorem dX2_spells_27 : decode cX2_spells 27 = .ok (.istore_n 2, 1) := by decide +kernel
theorem dX2_spells_28 : decode cX2_spells 28 = .ok (.iload_n 2, 1) := by decide +kernel
theorem dX2_spells_29 : decode cX2_spells 29 = .ok (.aload_n 1, 1) := by decide +kernel
theorem dX2_spells_30 : decode cX2_spells 30 = .ok (.invokevirtual 113, 3) := by decide +kernel
theorem dX2_spells_33 : decode cX2_spells 33 = .ok (.if_icmp .ge 30, 3) := by decide +kernel
theorem dX2_spells_36 : decode cX2_spells 36 = .ok (.aload_n 0, 1) := by decide +kernel
theorem dX2_spells_37 : decode cX2_spells 37 = .ok (.getfield 9, 3) := by decide +kernel
theorem dX2_spells_40 : decode cX2_spells 40 = .ok (.aload_n 0, 1) := by decide +kernel
theorem dX2_spells_41 : decode cX2_spells 41 = .ok (.getfield 77, 3) := by decide +kernel
theorem dX2_spells_44 : decode cX2_spells 44 = .ok (.iload_n 2, 1) := by decide +kernel
theorem dX2_spells_45 : decode cX2_spells 45 = .ok (.iadd, 1) := by decide +kernel
theorem dX2_spells_46 : decode cX2_spells 46 = .ok (.baload, 1) := by decide +kernel
theorem dX2_spells_47 : decode cX2_spells 47 = .ok (.aload_n 1, 1) := by decide +kernel
theorem dX2_spells_48 : decode cX2_spells 48 = .ok (.iload_n 2, 1) := by decide +kernel
theorem dX2_spells_49 : decode cX2_spells 49 = .ok (.invokevirtual 117, 3) := by decide +kernel
theorem dX2_spells_52 : decode cX2_spells 52 = .ok (.if_icmp .eq 5, 3) := by decide +kernel
theorem dX2_spells_55 : decode cX2_spells 55 = .ok (.iconst 0, 1) := by decide +kernel
theorem dX2_spells_56 : decode cX2_spells 56 = .ok (.ireturn, 1) := by decide +kernel
theorem dX2_spells_57 : decode cX2_spells 57 = .ok (.iinc 2 1, 3) := by decide +kernel
theorem dX2_spells_60 : decode cX2_spells 60 = .ok (.goto (-32), 3) := by decide +kernel
theorem dX2_spells_63 : decode cX2_spells 63 = .ok (.iconst 1, 1) := by decide +kernel
theorem dX2_spells_64 : decode cX2_spells 64 = .ok (.ireturn, 1) := by decide +kernel
theorem dX2_lineBegun_0 : decode cX2_lineBegun 0 = .ok (.aload_n 0, 1) := by decide +kernel
theorem dX2_lineBegun_1 : decode cX2_lineBegun 1 = .ok (.ldc 91, 2) := by decide +kernel
theorem dX2_lineBegun_3 : decode cX2_lineBegun 3 = .ok (.invokevirtual 93, 3) := by decide +kernel
theorem dX2_lineBegun_6 : decode cX2_lineBegun 6 = .ok (.ifCond .eq 7, 3) := by decide +kernel
theorem dX2_lineBegun_9 : decode cX2_lineBegun 9 = .ok (.iconst 5, 1) := by decide +kernel
theorem dX2_lineBegun_10 : decode cX2_lineBegun 10 = .ok (.goto 112, 3) := by decide +kernel
theorem dX2_lineBegun_13 : decode cX2_lineBegun 13 = .ok (.aload_n 0, 1) := by decide +kernel
theorem dX2_lineBegun_14 : decode cX2_lineBegun 14 = .ok (.ldc 97, 2) := by decide +kernel
theorem dX2_lineBegun_16 : decode cX2_lineBegun 16 = .ok (.invokevirtual 93, 3) := by decide +kernel
theorem dX2_lineBegun_19 : decode cX2_lineBegun 19 = .ok (.ifCond .eq 8, 3) := by decide +kernel
theorem dX2_lineBegun_22 : decode cX2_lineBegun 22 = .ok (.bipush 6, 2) := by decide +kernel
theorem dX2_lineBegun_24 : decode cX2_lineBegun 24 = .ok (.goto 98, 3) := by decide +kernel
theorem dX2_lineBegun_27 : decode cX2_lineBegun 27 = .ok (.aload_n 0, 1) := by decide +kernel
theorem dX2_lineBegun_28 : decode cX2_lineBegun 28 = .ok (.ldc 99, 2) := by decide +kernel
theorem dX2_lineBegun_30 : decode cX2_lineBegun 30 = .ok (.invokevirtual 93, 3) := by decide +kernel
theorem dX2_lineBegun_33 : decode cX2_lineBegun 33 = .ok (.ifCond .eq 8, 3) := by decide +kernel
theorem dX2_lineBegun_36 : decode cX2_lineBegun 36 = .ok (.bipush 7, 2) := by decide +kernel
theorem dX2_lineBegun_38 : decode cX2_lineBegun 38 = .ok (.goto 84, 3) := by decide +kernel
theorem dX2_lineBegun_41 : decode cX2_lineBegun 41 = .ok (.aload_n 0, 1) := by decide +kernel
theorem dX2_lineBegun_42 : decode cX2_lineBegun 42 = .ok (.ldc 101, 2) := by decide +kernel
theorem dX2_lineBegun_44 : decode cX2_lineBegun 44 = .ok (.invokevirtual 93, 3) := by decide +kernel
theorem dX2_lineBegun_47 : decode cX2_lineBegun 47 = .ok (.ifCond .eq 8, 3) := by decide +kernel
theorem dX2_lineBegun_50 : decode cX2_lineBegun 50 = .ok (.bipush 8, 2) := by decide +kernel
theorem dX2_lineBegun_52 : decode cX2_lineBegun 52 = .ok (.goto 70, 3) := by decide +kernel
theorem dX2_lineBegun_55 : decode cX2_lineBegun 55 = .ok (.aload_n 0, 1) := by decide +kernel
theorem dX2_lineBegun_56 : decode cX2_lineBegun 56 = .ok (.ldc 103, 2) := by decide +kernel
theorem dX2_lineBegun_58 : decode cX2_lineBegun 58 = .ok (.invokevirtual 93, 3) := by decide +kernel
theorem dX2_lineBegun_61 : decode cX2_lineBegun 61 = .ok (.ifCond .eq 7, 3) := by decide +kernel
theorem dX2_lineBegun_64 : decode cX2_lineBegun 64 = .ok (.iconst 0, 1) := by decide +kernel
theorem dX2_lineBegun_65 : decode cX2_lineBegun 65 = .ok (.goto 57, 3) := by decide +kernel
theorem dX2_lineBegun_68 : decode cX2_lineBegun 68 = .ok (.aload_n 0, 1) := by decide +kernel
theorem dX2_lineBegun_69 : decode cX2_lineBegun 69 = .ok (.ldc 105, 2) := by decide +kernel
theorem dX2_lineBegun_71 : decode cX2_lineBegun 71 = .ok (.invokevirtual 93, 3) := by decide +kernel
theorem dX2_lineBegun_74 : decode cX2_lineBegun 74 = .ok (.ifCond .eq 7, 3) := by decide +kernel
theorem dX2_lineBegun_77 : decode cX2_lineBegun 77 = .ok (.iconst 1, 1) := by decide +kernel
theorem dX2_lineBegun_78 : decode cX2_lineBegun 78 = .ok (.goto 44, 3) := by decide +kernel
theorem dX2_lineBegun_81 : decode cX2_lineBegun 81 = .ok (.aload_n 0, 1) := by decide +kernel
theorem dX2_lineBegun_82 : decode cX2_lineBegun 82 = .ok (.ldc 107, 2) := by decide +kernel
theorem dX2_lineBegun_84 : decode cX2_lineBegun 84 = .ok (.invokevirtual 93, 3) := by decide +kernel
theorem dX2_lineBegun_87 : decode cX2_lineBegun 87 = .ok (.ifCond .eq 7, 3) := by decide +kernel
theorem dX2_lineBegun_90 : decode cX2_lineBegun 90 = .ok (.iconst 2, 1) := by decide +kernel
theorem dX2_lineBegun_91 : decode cX2_lineBegun 91 = .ok (.goto 31, 3) := by decide +kernel
theorem dX2_lineBegun_94 : decode cX2_lineBegun 94 = .ok (.aload_n 0, 1) := by decide +kernel
theorem dX2_lineBegun_95 : decode cX2_lineBegun 95 = .ok (.ldc 109, 2) := by decide +kernel
theorem dX2_lineBegun_97 : decode cX2_lineBegun 97 = .ok (.invokevirtual 93, 3) := by decide +kernel
theorem dX2_lineBegun_100 : decode cX2_lineBegun 100 = .ok (.ifCond .eq 7, 3) := by decide +kernel
theorem dX2_lineBegun_103 : decode cX2_lineBegun 103 = .ok (.iconst 3, 1) := by decide +kernel
theorem dX2_lineBegun_104 : decode cX2_lineBegun 104 = .ok (.goto 18, 3) := by decide +kernel
theorem dX2_lineBegun_107 : decode cX2_lineBegun 107 = .ok (.aload_n 0, 1) := by decide +kernel
theorem dX2_lineBegun_108 : decode cX2_lineBegun 108 = .ok (.ldc 111, 2) := by decide +kernel
theorem dX2_lineBegun_110 : decode cX2_lineBegun 110 = .ok (.invokevirtual 93, 3) := by decide +kernel
theorem dX2_lineBegun_113 : decode cX2_lineBegun 113 = .ok (.ifCond .eq 7, 3) := by decide +kernel
theorem dX2_lineBegun_116 : decode cX2_lineBegun 116 = .ok (.iconst 4, 1) := by decide +kernel
theorem dX2_lineBegun_117 : decode cX2_lineBegun 117 = .ok (.goto 5, 3) := by decide +kernel
theorem dX2_lineBegun_120 : decode cX2_lineBegun 120 = .ok (.bipush (-4), 2) := by decide +kernel
theorem dX2_lineBegun_122 : decode cX2_lineBegun 122 = .ok (.ireturn, 1) := by decide +kernel
theorem dX2_refuse_0 : decode cX2_refuse 0 = .ok (.aload_n 0, 1) := by decide +kernel
theorem dX2_refuse_1 : decode cX2_refuse 1 = .ok (.getfield 33, 3) := by decide +kernel
theorem dX2_refuse_4 : decode cX2_refuse 4 = .ok (.ifCond .ne 16, 3) := by decide +kernel
theorem dX2_refuse_7 : decode cX2_refuse 7 = .ok (.aload_n 0, 1) := by decide +kernel
theorem dX2_refuse_8 : decode cX2_refuse 8 = .ok (.iload_n 1, 1) := by decide +kernel
theorem dX2_refuse_9 : decode cX2_refuse 9 = .ok (.putfield 33, 3) := by decide +kernel
theorem dX2_refuse_12 : decode cX2_refuse 12 = .ok (.aload_n 0, 1) := by decide +kernel
theorem dX2_refuse_13 : decode cX2_refuse 13 = .ok (.aload_n 0, 1) := by decide +kernel
theorem dX2_refuse_14 : decode cX2_refuse 14 = .ok (.getfield 77, 3) := by decide +kernel
theorem dX2_refuse_17 : decode cX2_refuse 17 = .ok (.putfield 80, 3) := by decide +kernel
theorem dX2_refuse_20 : decode cX2_refuse 20 = .ok (.return_, 1) := by decide +kernel
theorem dX2_nextToken_0 : decode cX2_nextToken 0 = .ok (.aload_n 0, 1) := by decide +kernel
theorem dX2_nextToken_1 : decode cX2_nextToken 1 = .ok (.getfield 33, 3) := by decide +kernel
theorem dX2_nextToken_4 : decode cX2_nextToken 4 = .ok (.ifCond .eq 4, 3) := by decide +kernel
theorem dX2_nextToken_7 : decode cX2_nextToken 7 = .ok (.return_, 1) := by decide +kernel
theorem dX2_nextToken_8 : decode cX2_nextToken 8 = .ok (.aload_n 0, 1) := by decide +kernel
theorem dX2_nextToken_9 : decode cX2_nextToken 9 = .ok (.aload_n 0, 1) := by decide +kernel
theorem dX2_nextToken_10 : decode cX2_nextToken 10 = .ok (.aload_n 0, 1) := by decide +kernel
theorem dX2_nextToken_11 : decode cX2_nextToken 11 = .ok (.getfield 74, 3) := by decide +kernel
theorem dX2_nextToken_14 : decode cX2_nextToken 14 = .ok (.iconst 1, 1) := by decide +kernel
theorem dX2_nextToken_15 : decode cX2_nextToken 15 = .ok (.invokevirtual 83, 3) := by decide +kernel
theorem dX2_nextToken_18 : decode cX2_nextToken 18 = .ok (.putfield 77, 3) := by decide +kernel
theorem dX2_nextToken_21 : decode cX2_nextToken 21 = .ok (.aload_n 0, 1) := by decide +kernel
theorem dX2_nextToken_22 : decode cX2_nextToken 22 = .ok (.aload_n 0, 1) := by decide +kernel
theorem dX2_nextToken_23 : decode cX2_nextToken 23 = .ok (.getfield 77, 3) := by decide +kernel
theorem dX2_nextToken_26 : decode cX2_nextToken 26 = .ok (.aload_n 0, 1) := by decide +kernel
theorem dX2_nextToken_27 : decode cX2_nextToken 27 = .ok (.getfield 19, 3) := by decide +kernel
theorem dX2_nextToken_30 : decode cX2_nextToken 30 = .ok (.if_icmp .ge 18, 3) := by decide +kernel
theorem dX2_nextToken_33 : decode cX2_nextToken 33 = .ok (.aload_n 0, 1) := by decide +kernel
theorem dX2_nextToken_34 : decode cX2_nextToken 34 = .ok (.getfield 9, 3) := by decide +kernel
theorem dX2_nextToken_37 : decode cX2_nextToken 37 = .ok (.aload_n 0, 1) := by decide +kernel
theorem dX2_nextToken_38 : decode cX2_nextToken 38 = .ok (.getfield 77, 3) := by decide +kernel
theorem dX2_nextToken_41 : decode cX2_nextToken 41 = .ok (.baload, 1) := by decide +kernel
theorem dX2_nextToken_42 : decode cX2_nextToken 42 = .ok (.invokestatic 87, 3) := by decide +kernel
theorem dX2_nextToken_45 : decode cX2_nextToken 45 = .ok (.goto 4, 3) := by decide +kernel
theorem dX2_nextToken_48 : decode cX2_nextToken 48 = .ok (.iconst 0, 1) := by decide +kernel
theorem dX2_nextToken_49 : decode cX2_nextToken 49 = .ok (.putfield 36, 3) := by decide +kernel
theorem dX2_nextToken_52 : decode cX2_nextToken 52 = .ok (.aload_n 0, 1) := by decide +kernel
theorem dX2_nextToken_53 : decode cX2_nextToken 53 = .ok (.aload_n 0, 1) := by decide +kernel
theorem dX2_nextToken_54 : decode cX2_nextToken 54 = .ok (.getfield 36, 3) := by decide +kernel
theorem dX2_nextToken_57 : decode cX2_nextToken 57 = .ok (.iconst 2, 1) := by decide +kernel
theorem dX2_nextToken_58 : decode cX2_nextToken 58 = .ok (.if_icmp .eq 11, 3) := by decide +kernel
theorem dX2_nextToken_61 : decode cX2_nextToken 61 = .ok (.aload_n 0, 1) := by decide +kernel
theorem dX2_nextToken_62 : decode cX2_nextToken 62 = .ok (.getfield 36, 3) := by decide +kernel
theorem dX2_nextToken_65 : decode cX2_nextToken 65 = .ok (.iconst 3, 1) := by decide +kernel
theorem dX2_nextToken_66 : decode cX2_nextToken 66 = .ok (.if_icmp .ne 18, 3) := by decide +kernel
theorem dX2_nextToken_69 : decode cX2_nextToken 69 = .ok (.aload_n 0, 1) := by decide +kernel
theorem dX2_nextToken_70 : decode cX2_nextToken 70 = .ok (.aload_n 0, 1) := by decide +kernel
theorem dX2_nextToken_71 : decode cX2_nextToken 71 = .ok (.getfield 77, 3) := by decide +kernel
theorem dX2_nextToken_74 : decode cX2_nextToken 74 = .ok (.aload_n 0, 1) := by decide +kernel
theorem dX2_nextToken_75 : decode cX2_nextToken 75 = .ok (.getfield 36, 3) := by decide +kernel
theorem dX2_nextToken_78 : decode cX2_nextToken 78 = .ok (.invokevirtual 83, 3) := by decide +kernel
theorem dX2_nextToken_81 : decode cX2_nextToken 81 = .ok (.goto 9, 3) := by decide +kernel
theorem dX2_nextToken_84 : decode cX2_nextToken 84 = .ok (.aload_n 0, 1) := by decide +kernel
theorem dX2_nextToken_85 : decode cX2_nextToken 85 = .ok (.getfield 77, 3) := by decide +kernel
theorem dX2_nextToken_88 : decode cX2_nextToken 88 = .ok (.iconst 1, 1) := by decide +kernel
theorem dX2_nextToken_89 : decode cX2_nextToken 89 = .ok (.iadd, 1) := by decide +kernel
theorem dX2_nextToken_90 : decode cX2_nextToken 90 = .ok (.putfield 74, 3) := by decide +kernel
theorem dX2_nextToken_93 : decode cX2_nextToken 93 = .ok (.aload_n 0, 1) := by decide +kernel
theorem dX2_nextToken_94 : decode cX2_nextToken 94 = .ok (.getfield 36, 3) := by decide +kernel
theorem dX2_nextToken_97 : decode cX2_nextToken 97 = .ok (.iconst 5, 1) := by decide +kernel
theorem dX2_nextToken_98 : decode cX2_nextToken 98 = .ok (.if_icmp .eq 24, 3) := by decide +kernel
theorem dX2_nextToken_101 : decode cX2_nextToken 101 = .ok (.aload_n 0, 1) := by decide +kernel
theorem dX2_nextToken_102 : decode cX2_nextToken 102 = .ok (.getfield 36, 3) := by decide +kernel
theorem dX2_nextToken_105 : decode cX2_nextToken 105 = .ok (.iconst 3, 1) := by decide +kernel
theorem dX2_nextToken_106 : decode cX2_nextToken 106 = .ok (.if_icmp .ne 21, 3) := by decide +kernel
theorem dX2_nextToken_109 : decode cX2_nextToken 109 = .ok (.aload_n 0, 1) := by decide +kernel
theorem dX2_nextToken_110 : decode cX2_nextToken 110 = .ok (.getfield 74, 3) := by decide +kernel
theorem dX2_nextToken_113 : decode cX2_nextToken 113 = .ok (.aload_n 0, 1) := by decide +kernel
theorem dX2_nextToken_114 : decode cX2_nextToken 114 = .ok (.getfield 77, 3) := by decide +kernel
theorem dX2_nextToken_117 : decode cX2_nextToken 117 = .ok (.isub, 1) := by decide +kernel
theorem dX2_nextToken_118 : decode cX2_nextToken 118 = .ok (.iconst 3, 1) := by decide +kernel
theorem dX2_nextToken_119 : decode cX2_nextToken 119 = .ok (.if_icmp .le 8, 3) := by decide +kernel
theorem dX2_nextToken_122 : decode cX2_nextToken 122 = .ok (.aload_n 0, 1) := by decide +kernel
theorem dX2_nextToken_123 : decode cX2_nextToken 123 = .ok (.iconst 1, 1) := by decide +kernel
theorem dX2_nextToken_124 : decode cX2_nextToken 124 = .ok (.invokevirtual 64, 3) := by decide +kernel
theorem dX2_nextToken_127 : decode cX2_nextToken 127 = .ok (.return_, 1) := by decide +kernel
theorem dX2_startAnew_0 : decode cX2_startAnew 0 = .ok (.aload_n 0, 1) := by decide +kernel
theorem dX2_startAnew_1 : decode cX2_startAnew 1 = .ok (.getfield 23, 3) := by decide +kernel
theorem dX2_startAnew_4 : decode cX2_startAnew 4 = .ok (.invokevirtual 71, 3) := by decide +kernel
theorem dX2_startAnew_7 : decode cX2_startAnew 7 = .ok (.iconst 0, 1) := by decide +kernel
theorem dX2_startAnew_8 : decode cX2_startAnew 8 = .ok (.istore_n 1, 1) := by decide +kernel
theorem dX2_startAnew_9 : decode cX2_startAnew 9 = .ok (.iload_n 1, 1) := by decide +kernel
theorem dX2_startAnew_10 : decode cX2_startAnew 10 = .ok (.iconst 5, 1) := by decide +kernel
theorem dX2_startAnew_11 : decode cX2_startAnew 11 = .ok (.if_icmp .ge 16, 3) := by decide +kernel
theorem dX2_startAnew_14 : decode cX2_startAnew 14 = .ok (.aload_n 0, 1) := by decide +kernel
theorem dX2_startAnew_15 : decode cX2_startAnew 15 = .ok (.getfield 15, 3) := by decide +kernel
theorem dX2_startAnew_18 : decode cX2_startAnew 18 = .ok (.iload_n 1, 1) := by decide +kernel
theorem dX2_startAnew_19 : decode cX2_startAnew 19 = .ok (.iconst 0, 1) := by decide +kernel
theorem dX2_startAnew_20 : decode cX2_startAnew 20 = .ok (.bastore, 1) := by decide +kernel
theorem dX2_startAnew_21 : decode cX2_startAnew 21 = .ok (.iinc 1 1, 3) := by decide +kernel
theorem dX2_startAnew_24 : decode cX2_startAnew 24 = .ok (.goto (-15), 3) := by decide +kernel
theorem dX2_startAnew_27 : decode cX2_startAnew 27 = .ok (.aload_n 0, 1) := by decide +kernel
theorem dX2_startAnew_28 : decode cX2_startAnew 28 = .ok (.iconst 0, 1) := by decide +kernel
theorem dX2_startAnew_29 : decode cX2_startAnew 29 = .ok (.putfield 74, 3) := by decide +kernel
theorem dX2_startAnew_32 : decode cX2_startAnew 32 = .ok (.aload_n 0, 1) := by decide +kernel
theorem dX2_startAnew_33 : decode cX2_startAnew 33 = .ok (.iconst 0, 1) := by decide +kernel
theorem dX2_startAnew_34 : decode cX2_startAnew 34 = .ok (.putfield 68, 3) := by decide +kernel
theorem dX2_startAnew_37 : decode cX2_startAnew 37 = .ok (.aload_n 0, 1) := by decide +kernel
theorem dX2_startAnew_38 : decode cX2_startAnew 38 = .ok (.iconst 0, 1) := by decide +kernel
theorem dX2_startAnew_39 : decode cX2_startAnew 39 = .ok (.putfield 33, 3) := by decide +kernel
theorem dX2_startAnew_42 : decode cX2_startAnew 42 = .ok (.return_, 1) := by decide +kernel
theorem dX2_takeNumber_0 : decode cX2_takeNumber 0 = .ok (.aload_n 0, 1) := by decide +kernel
theorem dX2_takeNumber_1 : decode cX2_takeNumber 1 = .ok (.invokevirtual 30, 3) := by decide +kernel
theorem dX2_takeNumber_4 : decode cX2_takeNumber 4 = .ok (.aload_n 0, 1) := by decide +kernel
theorem dX2_takeNumber_5 : decode cX2_takeNumber 5 = .ok (.getfield 33, 3) := by decide +kernel
theorem dX2_takeNumber_8 : decode cX2_takeNumber 8 = .ok (.ifCond .eq 5, 3) := by decide +kernel
theorem dX2_takeNumber_11 : decode cX2_takeNumber 11 = .ok (.iconst 0, 1) := by decide +kernel
theorem dX2_takeNumber_12 : decode cX2_takeNumber 12 = .ok (.ireturn, 1) := by decide +kernel
theorem dX2_takeNumber_13 : decode cX2_takeNumber 13 = .ok (.aload_n 0, 1) := by decide +kernel
theorem dX2_takeNumber_14 : decode cX2_takeNumber 14 = .ok (.getfield 36, 3) := by decide +kernel
theorem dX2_takeNumber_17 : decode cX2_takeNumber 17 = .ok (.iconst 3, 1) := by decide +kernel
theorem dX2_takeNumber_18 : decode cX2_takeNumber 18 = .ok (.if_icmp .eq 10, 3) := by decide +kernel
theorem dX2_takeNumber_21 : decode cX2_takeNumber 21 = .ok (.aload_n 0, 1) := by decide +kernel
theorem dX2_takeNumber_22 : decode cX2_takeNumber 22 = .ok (.iconst 2, 1) := by decide +kernel
theorem dX2_takeNumber_23 : decode cX2_takeNumber 23 = .ok (.invokevirtual 64, 3) := by decide +kernel
theorem dX2_takeNumber_26 : decode cX2_takeNumber 26 = .ok (.iconst 0, 1) := by decide +kernel
theorem dX2_takeNumber_27 : decode cX2_takeNumber 27 = .ok (.ireturn, 1) := by decide +kernel
theorem dX2_takeNumber_28 : decode cX2_takeNumber 28 = .ok (.iconst 0, 1) := by decide +kernel
theorem dX2_takeNumber_29 : decode cX2_takeNumber 29 = .ok (.istore_n 3, 1) := by decide +kernel
theorem dX2_takeNumber_30 : decode cX2_takeNumber 30 = .ok (.aload_n 0, 1) := by decide +kernel
theorem dX2_takeNumber_31 : decode cX2_takeNumber 31 = .ok (.getfield 77, 3) := by decide +kernel
theorem dX2_takeNumber_34 : decode cX2_takeNumber 34 = .ok (.istore 4, 2) := by decide +kernel
theorem dX2_takeNumber_36 : decode cX2_takeNumber 36 = .ok (.iload 4, 2) := by decide +kernel
theorem dX2_takeNumber_38 : decode cX2_takeNumber 38 = .ok (.aload_n 0, 1) := by decide +kernel
theorem dX2_takeNumber_39 : decode cX2_takeNumber 39 = .ok (.getfield 74, 3) := by decide +kernel
theorem dX2_takeNumber_42 : decode cX2_takeNumber 42 = .ok (.if_icmp .ge 25, 3) := by decide +kernel
theorem dX2_takeNumber_45 : decode cX2_takeNumber 45 = .ok (.iload_n 3, 1) := by decide +kernel
theorem dX2_takeNumber_46 : decode cX2_takeNumber 46 = .ok (.bipush 10, 2) := by decide +kernel
theorem dX2_takeNumber_48 : decode cX2_takeNumber 48 = .ok (.imul, 1) := by decide +kernel
theorem dX2_takeNumber_49 : decode cX2_takeNumber 49 = .ok (.aload_n 0, 1) := by decide +kernel
theorem dX2_takeNumber_50 : decode cX2_takeNumber 50 = .ok (.getfield 9, 3) := by decide +kernel
theorem dX2_takeNumber_53 : decode cX2_takeNumber 53 = .ok (.iload 4, 2) := by decide +kernel
theorem dX2_takeNumber_55 : decode cX2_takeNumber 55 = .ok (.baload, 1) := by decide +kernel
theorem dX2_takeNumber_56 : decode cX2_takeNumber 56 = .ok (.iadd, 1) := by decide +kernel
theorem dX2_takeNumber_57 : decode cX2_takeNumber 57 = .ok (.bipush 48, 2) := by decide +kernel
theorem dX2_takeNumber_59 : decode cX2_takeNumber 59 = .ok (.isub, 1) := by decide +kernel
theorem dX2_takeNumber_60 : decode cX2_takeNumber 60 = .ok (.istore_n 3, 1) := by decide +kernel
theorem dX2_takeNumber_61 : decode cX2_takeNumber 61 = .ok (.iinc 4 1, 3) := by decide +kernel
theorem dX2_takeNumber_64 : decode cX2_takeNumber 64 = .ok (.goto (-28), 3) := by decide +kernel
theorem dX2_takeNumber_67 : decode cX2_takeNumber 67 = .ok (.iload_n 3, 1) := by decide +kernel
theorem dX2_takeNumber_68 : decode cX2_takeNumber 68 = .ok (.iload_n 1, 1) := by decide +kernel
theorem dX2_takeNumber_69 : decode cX2_takeNumber 69 = .ok (.if_icmp .lt 8, 3) := by decide +kernel
theorem dX2_takeNumber_72 : decode cX2_takeNumber 72 = .ok (.iload_n 3, 1) := by decide +kernel
theorem dX2_takeNumber_73 : decode cX2_takeNumber 73 = .ok (.iload_n 2, 1) := by decide +kernel
theorem dX2_takeNumber_74 : decode cX2_takeNumber 74 = .ok (.if_icmp .le 10, 3) := by decide +kernel
theorem dX2_takeNumber_77 : decode cX2_takeNumber 77 = .ok (.aload_n 0, 1) := by decide +kernel
theorem dX2_takeNumber_78 : decode cX2_takeNumber 78 = .ok (.iconst 3, 1) := by decide +kernel
theorem dX2_takeNumber_79 : decode cX2_takeNumber 79 = .ok (.invokevirtual 64, 3) := by decide +kernel
theorem dX2_takeNumber_82 : decode cX2_takeNumber 82 = .ok (.iconst 0, 1) := by decide +kernel
theorem dX2_takeNumber_83 : decode cX2_takeNumber 83 = .ok (.ireturn, 1) := by decide +kernel
theorem dX2_takeNumber_84 : decode cX2_takeNumber 84 = .ok (.iload_n 3, 1) := by decide +kernel
theorem dX2_takeNumber_85 : decode cX2_takeNumber 85 = .ok (.ireturn, 1) := by decide +kernel
def b_X2_spells_28 (m : Mm) (a1 : UInt32) (t3 : Int32) : Option ((Int32) ⊕ ((Unit) ⊕ (Unit))) :=
  (f_J0_length a1).bind fun x6 => if x6 ≤ t3 then (some (Sum.inr (Sum.inr (())))) else ((ald m 2 400 ((m 1 7) + t3)).bind fun x8 => (f_J0_charAt a1 t3).bind fun x9 => if x8 = x9 then (some (Sum.inl (t3 + 1))) else (some (Sum.inr (Sum.inl (())))))
def f_X2_spells (F : Nat) (m : Mm) (a1 : UInt32) : Option (Int32) :=
  if (m 1 9) = (2 : Int32) then ((f_J0_length a1).bind fun x1 => if ((m 1 8) - (m 1 7)) = x1 then ((iter F (b_X2_spells_28 m a1) (0 : Int32)).bind (Sum.elim (fun e4 : Unit => some 0) (fun e5 : Unit => some 1))) else (some 0)) else (some 0)
set_option maxHeartbeats 4000000 in
set_option maxRecDepth 100000 in
theorem ct_X2_spells (F : Nat) {n : Nat} (hn : 113 ≤ n) (P D : Nat) (T : Option Nat) (m : Mm) (a1 : UInt32) (hj : a1.toNat < nS) : Ct yX2_spells cX2_spells 3 (some .boolean) 4 85 [.ref 1, .float a1] n n m (RF P D T) (rP m (RF P D T) (f_X2_spells F m a1)) := by
  refine Ct.ofP (own := RX2) (nm := "spells") [(0, .ref 1), (1, .float a1)] (by decide) (Nat.le_of_ble_eq_true rfl) rfl rfl rfl ?_
  unfold f_X2_spells
  refine J_aload_n 0 0 1 dX2_spells_0 rfl rfl ?_
  refine J_getI 1 2 9 dX2_spells_1 fl_2_36 rfl rfl (Nat.lt_of_lt_of_le (Nat.le_of_ble_eq_true rfl) hn) ?_
  refine J_iconst 2 dX2_spells_4 (by decide) ?_
  refine J_icmp_ne 24 dX2_spells_5 (by decide) ?_ ?_
  · refine J_iconst 0 dX2_spells_24 (by decide) ?_
    exact J_zretP dX2_spells_25 rfl rfl rfl
  · refine J_aload_n 0 0 1 dX2_spells_8 rfl rfl ?_
    refine J_getI 1 2 8 dX2_spells_9 fl_2_74 rfl rfl (Nat.lt_of_lt_of_le (Nat.le_of_ble_eq_true rfl) hn) ?_
    refine J_aload_n 0 0 1 dX2_spells_12 rfl rfl ?_
    refine J_getI 1 2 7 dX2_spells_13 fl_2_77 rfl rfl (Nat.lt_of_lt_of_le (Nat.le_of_ble_eq_true rfl) hn) ?_
    refine J_isub dX2_spells_16 ?_
    refine J_sload_n 1 1 a1 dX2_spells_17 rfl rfl ?_
    refine J_callTP a1 hj 0 [] dX2_spells_18 mv_J0_length mv_J0_lengthv lk_2_113 (ct_J0_length m (RF P D T) a1 hj) rfl rfl ⟨by decide, by decide⟩ (Nat.le_of_ble_eq_true rfl) (fun x1 => ?_)
    refine J_icmp_eq 26 dX2_spells_21 (by decide) ?_ ?_
    · refine J_iconst 0 dX2_spells_26 (by decide) ?_
      refine J_istore_n 2 [(2, .int 0), (0, .ref 1), (1, .float a1)] dX2_spells_27 rfl (by decide) rfl ?_
      refine J_lv [1, 2, 0] rfl ?_
      refine J_loop (pc := 28) (fun t3 : Int32 => [(0, .ref 1), (1, .float a1), (2, .int t3)]) (fun t3 => m) (Sum.elim (fun _ => 55) (fun _ => 63)) (Sum.elim (fun e4 : Unit => []) (fun e5 : Unit => [])) (fun _ => []) (Sum.elim (fun e4 : Unit => m) (fun e5 : Unit => m)) ?_ (fun t3 k1 hBt3 hXt3 => ?_) F 0
      · refine sum_all ?_ ?_
        · intro e4
          dsimp only [Sum.elim_inl, Sum.elim_inr]
          refine J_iconst 0 dX2_spells_55 (by decide) ?_
          exact J_zretP dX2_spells_56 rfl rfl rfl
        · intro e5
          dsimp only [Sum.elim_inl, Sum.elim_inr]
          refine J_iconst 1 dX2_spells_63 (by decide) ?_
          exact J_zretP dX2_spells_64 rfl rfl rfl
      · unfold b_X2_spells_28
        refine J_iload_n 2 2 t3 dX2_spells_28 rfl rfl ?_
        refine J_sload_n 1 1 a1 dX2_spells_29 rfl rfl ?_
        refine J_callTP a1 hj 0 [] dX2_spells_30 mv_J0_length mv_J0_lengthv lk_2_113 (ct_J0_length m (RF P D T) a1 hj) rfl rfl ⟨by decide, by decide⟩ (Nat.le_of_ble_eq_true rfl) (fun x6 => ?_)
        refine J_icmp_ge 63 dX2_spells_33 (by decide) ?_ ?_
        · exact J_lv [] rfl (hXt3 (Sum.inr (())))
        · refine J_aload_n 0 0 1 dX2_spells_36 rfl rfl ?_
          refine J_getR 1 2 0 2 dX2_spells_37 fl_2_9 rfl rfl (Nat.lt_of_lt_of_le (Nat.le_of_ble_eq_true rfl) hn) rfl ?_
          refine J_aload_n 0 0 1 dX2_spells_40 rfl rfl ?_
          refine J_getI 1 2 7 dX2_spells_41 fl_2_77 rfl rfl (Nat.lt_of_lt_of_le (Nat.le_of_ble_eq_true rfl) hn) ?_
          refine J_iload_n 2 2 t3 dX2_spells_44 rfl rfl ?_
          refine J_iadd dX2_spells_45 ?_
          refine J_bald 2 400 dX2_spells_46 rfl (Nat.lt_of_lt_of_le (Nat.le_of_ble_eq_true rfl) hn) (fun x8 => ?_)
          refine J_sload_n 1 1 a1 dX2_spells_47 rfl rfl ?_
          refine J_iload_n 2 2 t3 dX2_spells_48 rfl rfl ?_
          refine J_callTP a1 hj 1 [.int t3] dX2_spells_49 mv_J0_charAt mv_J0_charAtv lk_2_117 (ct_J0_charAt m (RF P D T) a1 hj t3) rfl rfl ⟨by decide, by decide⟩ (Nat.le_of_ble_eq_true rfl) (fun x9 => ?_)
          refine J_icmp_eq 57 dX2_spells_52 (by decide) ?_ ?_
          · refine J_iinc 2 2 [(2, .int (t3 + 1)), (0, .ref 1), (1, .float a1)] t3 (t3 + 1) dX2_spells_57 rfl rfl (by decide) rfl ?_
            refine J_goto 28 dX2_spells_60 (by decide) ?_
            exact J_lv [1, 2, 0] rfl (hBt3 (t3 + 1))
          · exact J_lv [] rfl (hXt3 (Sum.inl (())))
    · refine J_iconst 0 dX2_spells_24 (by decide) ?_
      exact J_zretP dX2_spells_25 rfl rfl rfl
def f_X2_lineBegun (F : Nat) (m : Mm) : Option (Int32) :=
  (f_X2_spells F m ((UInt32.ofNat 0))).bind fun x1 => if x1 = 0 then ((f_X2_spells F m ((UInt32.ofNat 1))).bind fun x3 => if x3 = 0 then ((f_X2_spells F m ((UInt32.ofNat 2))).bind fun x5 => if x5 = 0 then ((f_X2_spells F m ((UInt32.ofNat 3))).bind fun x7 => if x7 = 0 then ((f_X2_spells F m ((UInt32.ofNat 4))).bind fun x9 => if x9 = 0 then ((f_X2_spells F m ((UInt32.ofNat 5))).bind fun x11 => if x11 = 0 then ((f_X2_spells F m ((UInt32.ofNat 6))).bind fun x13 => if x13 = 0 then ((f_X2_spells F m ((UInt32.ofNat 7))).bind fun x15 => if x15 = 0 then ((f_X2_spells F m ((UInt32.ofNat 8))).bind fun x17 => if x17 = 0 then (some (-4)) else (some 4)) else (some 3)) else (some 2)) else (some 1)) else (some 0)) else (some 8)) else (some 7)) else (some 6)) else (some 5)
set_option maxHeartbeats 4000000 in
set_option maxRecDepth 100000 in
theorem ct_X2_lineBegun (F : Nat) {n : Nat} (hn : 113 ≤ n) (P D : Nat) (T : Option Nat) (m : Mm)  : Ct yX2_lineBegun cX2_lineBegun 1 (some .int) 5 107 [.ref 1] n n m (RF P D T) (rP m (RF P D T) (f_X2_lineBegun F m)) := by
  refine Ct.ofP (own := RX2) (nm := "lineBegun") [(0, .ref 1)] (by decide) (Nat.le_of_ble_eq_true rfl) rfl rfl rfl ?_
  unfold f_X2_lineBegun
  refine J_aload_n 0 0 1 dX2_lineBegun_0 rfl rfl ?_
  refine J_ldcS 0 (by decide) rfl rfl dX2_lineBegun_1 ?_
  refine J_callVP 1 2 1 [.float ((UInt32.ofNat 0))] dX2_lineBegun_3 mv_X2_spells mv_X2_spellsv lk_2_93 (ct_X2_spells F hn P D T m ((UInt32.ofNat 0)) (by decide)) rfl rfl (by decide) rfl (Nat.lt_of_lt_of_le (Nat.le_of_ble_eq_true rfl) hn) ⟨by decide, by decide⟩ (Nat.le_of_ble_eq_true rfl) (fun x1 => ?_)
  refine J_if_eq 13 dX2_lineBegun_6 (by decide) ?_ ?_
  · refine J_aload_n 0 0 1 dX2_lineBegun_13 rfl rfl ?_
    refine J_ldcS 1 (by decide) rfl rfl dX2_lineBegun_14 ?_
    refine J_callVP 1 2 1 [.float ((UInt32.ofNat 1))] dX2_lineBegun_16 mv_X2_spells mv_X2_spellsv lk_2_93 (ct_X2_spells F hn P D T m ((UInt32.ofNat 1)) (by decide)) rfl rfl (by decide) rfl (Nat.lt_of_lt_of_le (Nat.le_of_ble_eq_true rfl) hn) ⟨by decide, by decide⟩ (Nat.le_of_ble_eq_true rfl) (fun x3 => ?_)
    refine J_if_eq 27 dX2_lineBegun_19 (by decide) ?_ ?_
    · refine J_aload_n 0 0 1 dX2_lineBegun_27 rfl rfl ?_
      refine J_ldcS 2 (by decide) rfl rfl dX2_lineBegun_28 ?_
      refine J_callVP 1 2 1 [.float ((UInt32.ofNat 2))] dX2_lineBegun_30 mv_X2_spells mv_X2_spellsv lk_2_93 (ct_X2_spells F hn P D T m ((UInt32.ofNat 2)) (by decide)) rfl rfl (by decide) rfl (Nat.lt_of_lt_of_le (Nat.le_of_ble_eq_true rfl) hn) ⟨by decide, by decide⟩ (Nat.le_of_ble_eq_true rfl) (fun x5 => ?_)
      refine J_if_eq 41 dX2_lineBegun_33 (by decide) ?_ ?_
      · refine J_aload_n 0 0 1 dX2_lineBegun_41 rfl rfl ?_
        refine J_ldcS 3 (by decide) rfl rfl dX2_lineBegun_42 ?_
        refine J_callVP 1 2 1 [.float ((UInt32.ofNat 3))] dX2_lineBegun_44 mv_X2_spells mv_X2_spellsv lk_2_93 (ct_X2_spells F hn P D T m ((UInt32.ofNat 3)) (by decide)) rfl rfl (by decide) rfl (Nat.lt_of_lt_of_le (Nat.le_of_ble_eq_true rfl) hn) ⟨by decide, by decide⟩ (Nat.le_of_ble_eq_true rfl) (fun x7 => ?_)
        refine J_if_eq 55 dX2_lineBegun_47 (by decide) ?_ ?_
        · refine J_aload_n 0 0 1 dX2_lineBegun_55 rfl rfl ?_
          refine J_ldcS 4 (by decide) rfl rfl dX2_lineBegun_56 ?_
          refine J_callVP 1 2 1 [.float ((UInt32.ofNat 4))] dX2_lineBegun_58 mv_X2_spells mv_X2_spellsv lk_2_93 (ct_X2_spells F hn P D T m ((UInt32.ofNat 4)) (by decide)) rfl rfl (by decide) rfl (Nat.lt_of_lt_of_le (Nat.le_of_ble_eq_true rfl) hn) ⟨by decide, by decide⟩ (Nat.le_of_ble_eq_true rfl) (fun x9 => ?_)
          refine J_if_eq 68 dX2_lineBegun_61 (by decide) ?_ ?_
          · refine J_aload_n 0 0 1 dX2_lineBegun_68 rfl rfl ?_
            refine J_ldcS 5 (by decide) rfl rfl dX2_lineBegun_69 ?_
            refine J_callVP 1 2 1 [.float ((UInt32.ofNat 5))] dX2_lineBegun_71 mv_X2_spells mv_X2_spellsv lk_2_93 (ct_X2_spells F hn P D T m ((UInt32.ofNat 5)) (by decide)) rfl rfl (by decide) rfl (Nat.lt_of_lt_of_le (Nat.le_of_ble_eq_true rfl) hn) ⟨by decide, by decide⟩ (Nat.le_of_ble_eq_true rfl) (fun x11 => ?_)
            refine J_if_eq 81 dX2_lineBegun_74 (by decide) ?_ ?_
            · refine J_aload_n 0 0 1 dX2_lineBegun_81 rfl rfl ?_
              refine J_ldcS 6 (by decide) rfl rfl dX2_lineBegun_82 ?_
              refine J_callVP 1 2 1 [.float ((UInt32.ofNat 6))] dX2_lineBegun_84 mv_X2_spells mv_X2_spellsv lk_2_93 (ct_X2_spells F hn P D T m ((UInt32.ofNat 6)) (by decide)) rfl rfl (by decide) rfl (Nat.lt_of_lt_of_le (Nat.le_of_ble_eq_true rfl) hn) ⟨by decide, by decide⟩ (Nat.le_of_ble_eq_true rfl) (fun x13 => ?_)
              refine J_if_eq 94 dX2_lineBegun_87 (by decide) ?_ ?_
              · refine J_aload_n 0 0 1 dX2_lineBegun_94 rfl rfl ?_
                refine J_ldcS 7 (by decide) rfl rfl dX2_lineBegun_95 ?_
                refine J_callVP 1 2 1 [.float ((UInt32.ofNat 7))] dX2_lineBegun_97 mv_X2_spells mv_X2_spellsv lk_2_93 (ct_X2_spells F hn P D T m ((UInt32.ofNat 7)) (by decide)) rfl rfl (by decide) rfl (Nat.lt_of_lt_of_le (Nat.le_of_ble_eq_true rfl) hn) ⟨by decide, by decide⟩ (Nat.le_of_ble_eq_true rfl) (fun x15 => ?_)
                refine J_if_eq 107 dX2_lineBegun_100 (by decide) ?_ ?_
                · refine J_aload_n 0 0 1 dX2_lineBegun_107 rfl rfl ?_
                  refine J_ldcS 8 (by decide) rfl rfl dX2_lineBegun_108 ?_
                  refine J_callVP 1 2 1 [.float ((UInt32.ofNat 8))] dX2_lineBegun_110 mv_X2_spells mv_X2_spellsv lk_2_93 (ct_X2_spells F hn P D T m ((UInt32.ofNat 8)) (by decide)) rfl rfl (by decide) rfl (Nat.lt_of_lt_of_le (Nat.le_of_ble_eq_true rfl) hn) ⟨by decide, by decide⟩ (Nat.le_of_ble_eq_true rfl) (fun x17 => ?_)
                  refine J_if_eq 120 dX2_lineBegun_113 (by decide) ?_ ?_
                  · refine J_bipush (-4) dX2_lineBegun_120 (by decide) ?_
                    exact J_iretP dX2_lineBegun_122 rfl rfl
                  · refine J_iconst 4 dX2_lineBegun_116 (by decide) ?_
                    refine J_goto 122 dX2_lineBegun_117 (by decide) ?_
                    exact J_iretP dX2_lineBegun_122 rfl rfl
                · refine J_iconst 3 dX2_lineBegun_103 (by decide) ?_
                  refine J_goto 122 dX2_lineBegun_104 (by decide) ?_
                  exact J_iretP dX2_lineBegun_122 rfl rfl
              · refine J_iconst 2 dX2_lineBegun_90 (by decide) ?_
                refine J_goto 122 dX2_lineBegun_91 (by decide) ?_
                exact J_iretP dX2_lineBegun_122 rfl rfl
            · refine J_iconst 1 dX2_lineBegun_77 (by decide) ?_
              refine J_goto 122 dX2_lineBegun_78 (by decide) ?_
              exact J_iretP dX2_lineBegun_122 rfl rfl
          · refine J_iconst 0 dX2_lineBegun_64 (by decide) ?_
            refine J_goto 122 dX2_lineBegun_65 (by decide) ?_
            exact J_iretP dX2_lineBegun_122 rfl rfl
        · refine J_bipush 8 dX2_lineBegun_50 (by decide) ?_
          refine J_goto 122 dX2_lineBegun_52 (by decide) ?_
          exact J_iretP dX2_lineBegun_122 rfl rfl
      · refine J_bipush 7 dX2_lineBegun_36 (by decide) ?_
        refine J_goto 122 dX2_lineBegun_38 (by decide) ?_
        exact J_iretP dX2_lineBegun_122 rfl rfl
    · refine J_bipush 6 dX2_lineBegun_22 (by decide) ?_
      refine J_goto 122 dX2_lineBegun_24 (by decide) ?_
      exact J_iretP dX2_lineBegun_122 rfl rfl
  · refine J_iconst 5 dX2_lineBegun_9 (by decide) ?_
    refine J_goto 122 dX2_lineBegun_10 (by decide) ?_
    exact J_iretP dX2_lineBegun_122 rfl rfl
def f_X2_refuse (m : Mm) (a1 : Int32) : Option (Mm) :=
  if (m 1 3) = 0 then (letv (up2 m 1 3 a1) fun m1 => letv (up2 m1 1 4 (m1 1 7)) fun m2 => some m2) else (some m)
set_option maxHeartbeats 4000000 in
set_option maxRecDepth 100000 in
theorem ct_X2_refuse (F : Nat) {n : Nat} (hn : 113 ≤ n) (P D : Nat) (T : Option Nat) (m : Mm) (a1 : Int32) : Ct yX2_refuse cX2_refuse 2 none 0 0 [.ref 1, .int a1] n n m (RF P D T) (rV (RF P D T) (f_X2_refuse m a1)) := by
  refine Ct.ofV (own := RX2) (nm := "refuse") [(0, .ref 1), (1, .int a1)] (by decide) (Nat.le_of_ble_eq_true rfl) rfl rfl rfl ?_
  unfold f_X2_refuse
  refine J_aload_n 0 0 1 dX2_refuse_0 rfl rfl ?_
  refine J_getI 1 2 3 dX2_refuse_1 fl_2_33 rfl rfl (Nat.lt_of_lt_of_le (Nat.le_of_ble_eq_true rfl) hn) ?_
  refine J_if_ne 20 dX2_refuse_4 (by decide) ?_ ?_
  · exact J_vretV dX2_refuse_20 rfl rfl
  · refine J_aload_n 0 0 1 dX2_refuse_7 rfl rfl ?_
    refine J_iload_n 1 1 a1 dX2_refuse_8 rfl rfl ?_
    refine J_putI 1 2 3 dX2_refuse_9 fl_2_33 rfl rfl (Nat.lt_of_lt_of_le (Nat.le_of_ble_eq_true rfl) hn) rfl rfl rfl (fun m1 => ?_)
    refine J_aload_n 0 0 1 dX2_refuse_12 rfl rfl ?_
    refine J_aload_n 0 0 1 dX2_refuse_13 rfl rfl ?_
    refine J_getI 1 2 7 dX2_refuse_14 fl_2_77 rfl rfl (Nat.lt_of_lt_of_le (Nat.le_of_ble_eq_true rfl) hn) ?_
    refine J_putI 1 2 4 dX2_refuse_17 fl_2_80 rfl rfl (Nat.lt_of_lt_of_le (Nat.le_of_ble_eq_true rfl) hn) rfl rfl rfl (fun m2 => ?_)
    exact J_vretV dX2_refuse_20 rfl rfl
def f_X2_nextToken (F : Nat) (m : Mm) : Option (Mm) :=
  if (m 1 3) = 0 then ((f_X2_endOfRun F m (m 1 8) 1).bind fun x1 => letv (up2 m 1 7 x1) fun m3 => (if (m3 1 1) ≤ (m3 1 7) then (some 0) else ((ald m3 2 400 (m3 1 7)).bind fun x5 => (f_X2_kindOf x5).bind fun x6 => some x6) : Option (Int32)).bind fun y4 => letv (up2 m3 1 9 y4) fun m8 => (if (m8 1 9) = (2 : Int32) then ((f_X2_endOfRun F m8 (m8 1 7) (m8 1 9)).bind fun x10 => some x10) else (if (m8 1 9) = (3 : Int32) then ((f_X2_endOfRun F m8 (m8 1 7) (m8 1 9)).bind fun x12 => some x12) else (some ((m8 1 7) + (1 : Int32)))) : Option (Int32)).bind fun y9 => letv (up2 m8 1 8 y9) fun m14 => if (m14 1 9) = (5 : Int32) then ((f_X2_refuse m14 1).bind fun m16 => some m16) else (if (m14 1 9) = (3 : Int32) then (if ((m14 1 8) - (m14 1 7)) ≤ (3 : Int32) then (some m14) else ((f_X2_refuse m14 1).bind fun m18 => some m18)) else (some m14))) else (some m)
set_option maxHeartbeats 4000000 in
set_option maxRecDepth 100000 in
theorem ct_X2_nextToken (F : Nat) {n : Nat} (hn : 113 ≤ n) (P D : Nat) (T : Option Nat) (m : Mm)  : Ct yX2_nextToken cX2_nextToken 1 none 2 43 [.ref 1] n n m (RF P D T) (rV (RF P D T) (f_X2_nextToken F m)) := by
  refine Ct.ofV (own := RX2) (nm := "nextToken") [(0, .ref 1)] (by decide) (Nat.le_of_ble_eq_true rfl) rfl rfl rfl ?_
  unfold f_X2_nextToken
  refine J_aload_n 0 0 1 dX2_nextToken_0 rfl rfl ?_
  refine J_getI 1 2 3 dX2_nextToken_1 fl_2_33 rfl rfl (Nat.lt_of_lt_of_le (Nat.le_of_ble_eq_true rfl) hn) ?_
  refine J_if_eq 8 dX2_nextToken_4 (by decide) ?_ ?_
  · refine J_aload_n 0 0 1 dX2_nextToken_8 rfl rfl ?_
    refine J_aload_n 0 0 1 dX2_nextToken_9 rfl rfl ?_
    refine J_aload_n 0 0 1 dX2_nextToken_10 rfl rfl ?_
    refine J_getI 1 2 8 dX2_nextToken_11 fl_2_74 rfl rfl (Nat.lt_of_lt_of_le (Nat.le_of_ble_eq_true rfl) hn) ?_
    refine J_iconst 1 dX2_nextToken_14 (by decide) ?_
    refine J_callVP 1 2 2 [.int (m 1 8), .int 1] dX2_nextToken_15 mv_X2_endOfRun mv_X2_endOfRunv lk_2_83 (ct_X2_endOfRun F hn P D T m (m 1 8) 1) rfl rfl (by decide) rfl (Nat.lt_of_lt_of_le (Nat.le_of_ble_eq_true rfl) hn) ⟨by decide, by decide⟩ (Nat.le_of_ble_eq_true rfl) (fun x1 => ?_)
    refine J_putI 1 2 7 dX2_nextToken_18 fl_2_77 rfl rfl (Nat.lt_of_lt_of_le (Nat.le_of_ble_eq_true rfl) hn) rfl rfl rfl (fun m3 => ?_)
    refine J_aload_n 0 0 1 dX2_nextToken_21 rfl rfl ?_
    refine J_aload_n 0 0 1 dX2_nextToken_22 rfl rfl ?_
    refine J_getI 1 2 7 dX2_nextToken_23 fl_2_77 rfl rfl (Nat.lt_of_lt_of_le (Nat.le_of_ble_eq_true rfl) hn) ?_
    refine J_aload_n 0 0 1 dX2_nextToken_26 rfl rfl ?_
    refine J_getI 1 2 1 dX2_nextToken_27 fl_2_19 rfl rfl (Nat.lt_of_lt_of_le (Nat.le_of_ble_eq_true rfl) hn) ?_
    refine J_seqJ 49 (fun y4 : Int32 => [(0, .ref 1)]) (fun y4 => [.int y4, .ref 1]) (fun y4 => m3) (fun y4 => ?_) (fun k1 hEy4 => ?_)
    · refine J_putI 1 2 9 dX2_nextToken_49 fl_2_36 rfl rfl (Nat.lt_of_lt_of_le (Nat.le_of_ble_eq_true rfl) hn) rfl rfl rfl (fun m8 => ?_)
      refine J_aload_n 0 0 1 dX2_nextToken_52 rfl rfl ?_
      refine J_aload_n 0 0 1 dX2_nextToken_53 rfl rfl ?_
      refine J_getI 1 2 9 dX2_nextToken_54 fl_2_36 rfl rfl (Nat.lt_of_lt_of_le (Nat.le_of_ble_eq_true rfl) hn) ?_
      refine J_iconst 2 dX2_nextToken_57 (by decide) ?_
      refine J_seqJ 90 (fun y9 : Int32 => [(0, .ref 1)]) (fun y9 => [.int y9, .ref 1]) (fun y9 => m8) (fun y9 => ?_) (fun k1 hEy9 => ?_)
      · refine J_putI 1 2 8 dX2_nextToken_90 fl_2_74 rfl rfl (Nat.lt_of_lt_of_le (Nat.le_of_ble_eq_true rfl) hn) rfl rfl rfl (fun m14 => ?_)
        refine J_aload_n 0 0 1 dX2_nextToken_93 rfl rfl ?_
        refine J_getI 1 2 9 dX2_nextToken_94 fl_2_36 rfl rfl (Nat.lt_of_lt_of_le (Nat.le_of_ble_eq_true rfl) hn) ?_
        refine J_iconst 5 dX2_nextToken_97 (by decide) ?_
        refine J_icmp_eq 122 dX2_nextToken_98 (by decide) ?_ ?_
        · refine J_aload_n 0 0 1 dX2_nextToken_122 rfl rfl ?_
          refine J_iconst 1 dX2_nextToken_123 (by decide) ?_
          refine J_callVV 1 2 1 [.int 1] dX2_nextToken_124 mv_X2_refuse mv_X2_refusev lk_2_64 (ct_X2_refuse F hn P D T m14 1) rfl rfl (by decide) rfl (Nat.lt_of_lt_of_le (Nat.le_of_ble_eq_true rfl) hn) ⟨by decide, by decide⟩ (Nat.le_of_ble_eq_true rfl) (fun m16 => ?_)
          exact J_vretV dX2_nextToken_127 rfl rfl
        · refine J_aload_n 0 0 1 dX2_nextToken_101 rfl rfl ?_
          refine J_getI 1 2 9 dX2_nextToken_102 fl_2_36 rfl rfl (Nat.lt_of_lt_of_le (Nat.le_of_ble_eq_true rfl) hn) ?_
          refine J_iconst 3 dX2_nextToken_105 (by decide) ?_
          refine J_icmp_ne 127 dX2_nextToken_106 (by decide) ?_ ?_
          · exact J_vretV dX2_nextToken_127 rfl rfl
          · refine J_aload_n 0 0 1 dX2_nextToken_109 rfl rfl ?_
            refine J_getI 1 2 8 dX2_nextToken_110 fl_2_74 rfl rfl (Nat.lt_of_lt_of_le (Nat.le_of_ble_eq_true rfl) hn) ?_
            refine J_aload_n 0 0 1 dX2_nextToken_113 rfl rfl ?_
            refine J_getI 1 2 7 dX2_nextToken_114 fl_2_77 rfl rfl (Nat.lt_of_lt_of_le (Nat.le_of_ble_eq_true rfl) hn) ?_
            refine J_isub dX2_nextToken_117 ?_
            refine J_iconst 3 dX2_nextToken_118 (by decide) ?_
            refine J_icmp_le 127 dX2_nextToken_119 (by decide) ?_ ?_
            · exact J_vretV dX2_nextToken_127 rfl rfl
            · refine J_aload_n 0 0 1 dX2_nextToken_122 rfl rfl ?_
              refine J_iconst 1 dX2_nextToken_123 (by decide) ?_
              refine J_callVV 1 2 1 [.int 1] dX2_nextToken_124 mv_X2_refuse mv_X2_refusev lk_2_64 (ct_X2_refuse F hn P D T m14 1) rfl rfl (by decide) rfl (Nat.lt_of_lt_of_le (Nat.le_of_ble_eq_true rfl) hn) ⟨by decide, by decide⟩ (Nat.le_of_ble_eq_true rfl) (fun m18 => ?_)
              exact J_vretV dX2_nextToken_127 rfl rfl
      · refine J_icmp_eq 69 dX2_nextToken_58 (by decide) ?_ ?_
        · refine J_aload_n 0 0 1 dX2_nextToken_69 rfl rfl ?_
          refine J_aload_n 0 0 1 dX2_nextToken_70 rfl rfl ?_
          refine J_getI 1 2 7 dX2_nextToken_71 fl_2_77 rfl rfl (Nat.lt_of_lt_of_le (Nat.le_of_ble_eq_true rfl) hn) ?_
          refine J_aload_n 0 0 1 dX2_nextToken_74 rfl rfl ?_
          refine J_getI 1 2 9 dX2_nextToken_75 fl_2_36 rfl rfl (Nat.lt_of_lt_of_le (Nat.le_of_ble_eq_true rfl) hn) ?_
          refine J_callVP 1 2 2 [.int (m8 1 7), .int (m8 1 9)] dX2_nextToken_78 mv_X2_endOfRun mv_X2_endOfRunv lk_2_83 (ct_X2_endOfRun F hn P D T m8 (m8 1 7) (m8 1 9)) rfl rfl (by decide) rfl (Nat.lt_of_lt_of_le (Nat.le_of_ble_eq_true rfl) hn) ⟨by decide, by decide⟩ (Nat.le_of_ble_eq_true rfl) (fun x10 => ?_)
          refine J_goto 90 dX2_nextToken_81 (by decide) ?_
          exact J_lv [0] rfl (hEy9 x10)
        · refine J_aload_n 0 0 1 dX2_nextToken_61 rfl rfl ?_
          refine J_getI 1 2 9 dX2_nextToken_62 fl_2_36 rfl rfl (Nat.lt_of_lt_of_le (Nat.le_of_ble_eq_true rfl) hn) ?_
          refine J_iconst 3 dX2_nextToken_65 (by decide) ?_
          refine J_icmp_ne 84 dX2_nextToken_66 (by decide) ?_ ?_
          · refine J_aload_n 0 0 1 dX2_nextToken_84 rfl rfl ?_
            refine J_getI 1 2 7 dX2_nextToken_85 fl_2_77 rfl rfl (Nat.lt_of_lt_of_le (Nat.le_of_ble_eq_true rfl) hn) ?_
            refine J_iconst 1 dX2_nextToken_88 (by decide) ?_
            refine J_iadd dX2_nextToken_89 ?_
            exact J_lv [0] rfl (hEy9 ((m8 1 7) + (1 : Int32)))
          · refine J_aload_n 0 0 1 dX2_nextToken_69 rfl rfl ?_
            refine J_aload_n 0 0 1 dX2_nextToken_70 rfl rfl ?_
            refine J_getI 1 2 7 dX2_nextToken_71 fl_2_77 rfl rfl (Nat.lt_of_lt_of_le (Nat.le_of_ble_eq_true rfl) hn) ?_
            refine J_aload_n 0 0 1 dX2_nextToken_74 rfl rfl ?_
            refine J_getI 1 2 9 dX2_nextToken_75 fl_2_36 rfl rfl (Nat.lt_of_lt_of_le (Nat.le_of_ble_eq_true rfl) hn) ?_
            refine J_callVP 1 2 2 [.int (m8 1 7), .int (m8 1 9)] dX2_nextToken_78 mv_X2_endOfRun mv_X2_endOfRunv lk_2_83 (ct_X2_endOfRun F hn P D T m8 (m8 1 7) (m8 1 9)) rfl rfl (by decide) rfl (Nat.lt_of_lt_of_le (Nat.le_of_ble_eq_true rfl) hn) ⟨by decide, by decide⟩ (Nat.le_of_ble_eq_true rfl) (fun x12 => ?_)
            refine J_goto 90 dX2_nextToken_81 (by decide) ?_
            exact J_lv [0] rfl (hEy9 x12)
    · refine J_icmp_ge 48 dX2_nextToken_30 (by decide) ?_ ?_
      · refine J_iconst 0 dX2_nextToken_48 (by decide) ?_
        exact J_lv [0] rfl (hEy4 0)
      · refine J_aload_n 0 0 1 dX2_nextToken_33 rfl rfl ?_
        refine J_getR 1 2 0 2 dX2_nextToken_34 fl_2_9 rfl rfl (Nat.lt_of_lt_of_le (Nat.le_of_ble_eq_true rfl) hn) rfl ?_
        refine J_aload_n 0 0 1 dX2_nextToken_37 rfl rfl ?_
        refine J_getI 1 2 7 dX2_nextToken_38 fl_2_77 rfl rfl (Nat.lt_of_lt_of_le (Nat.le_of_ble_eq_true rfl) hn) ?_
        refine J_bald 2 400 dX2_nextToken_41 rfl (Nat.lt_of_lt_of_le (Nat.le_of_ble_eq_true rfl) hn) (fun x5 => ?_)
        refine J_callSP 1 [.int x5] dX2_nextToken_42 mv_X2_kindOf mv_X2_kindOfs lk_2_87 (ct_X2_kindOf F hn P D T m3 x5) rfl ⟨by decide, by decide⟩ (Nat.le_of_ble_eq_true rfl) (fun x6 => ?_)
        refine J_goto 49 dX2_nextToken_45 (by decide) ?_
        exact J_lv [0] rfl (hEy4 x6)
  · exact J_vretV dX2_nextToken_7 rfl rfl
def b_X2_startAnew_9  (t3 : Int32 × Mm) : Option ((Int32 × Mm) ⊕ (Mm)) :=
  if (5 : Int32) ≤ t3.1 then (some (Sum.inr t3.2)) else ((ast t3.2 3 5 t3.1 (vp_nar .boolean 0)).bind fun m5 => some (Sum.inl (t3.1 + 1, m5)))
def f_X2_startAnew (F : Nat) (m : Mm) (T : Nat) : Option (Mm) :=
  (f_X1_clear m T).bind fun m2 => (iter F b_X2_startAnew_9 ((0, m2) : Int32 × Mm)).bind (fun e4 : Mm => letv (up2 e4 1 8 0) fun m6 => letv (up2 m6 1 2 0) fun m7 => letv (up2 m7 1 3 0) fun m8 => some m8)
set_option maxHeartbeats 4000000 in
set_option maxRecDepth 100000 in
theorem ct_X2_startAnew (F : Nat) {n : Nat} (hn : 113 ≤ n) (P D : Nat) (T : Nat) (hT : isPl T) (m : Mm)  : Ct yX2_startAnew cX2_startAnew 2 none 1 20 [.ref 1] n n m (RF P D (some T)) (rV (RF P D (some T)) (f_X2_startAnew F m T)) := by
  refine Ct.ofV (own := RX2) (nm := "startAnew") [(0, .ref 1)] (by decide) (Nat.le_of_ble_eq_true rfl) rfl rfl rfl ?_
  unfold f_X2_startAnew
  refine J_aload_n 0 0 1 dX2_startAnew_0 rfl rfl ?_
  refine J_getR 1 2 6 T dX2_startAnew_1 fl_2_23 rfl rfl (Nat.lt_of_lt_of_le (Nat.le_of_ble_eq_true rfl) hn) rfl ?_
  refine J_callVV T 1 0 [] dX2_startAnew_4 mv_X1_clear mv_X1_clearv lk_2_71 (ct_X1_clear F hn P D (some T) m T hT) rfl (layc_Pl_0 hT) (by decide) rfl (lt_Pl_0 hT hn) ⟨by decide, by decide⟩ (Nat.le_of_ble_eq_true rfl) (fun m2 => ?_)
  refine J_iconst 0 dX2_startAnew_7 (by decide) ?_
  refine J_istore_n 1 [(1, .int 0), (0, .ref 1)] dX2_startAnew_8 rfl (by decide) rfl ?_
  refine J_lv [1, 0] rfl ?_
  refine J_loop (pc := 9) (fun t3 : Int32 × Mm => [(0, .ref 1), (1, .int t3.1)]) (fun t3 => t3.2) (fun _ => 27) (fun e4 => [(0, .ref 1)]) (fun _ => []) (fun e4 => e4) ?_ (fun t3 k1 hBt3 hXt3 => ?_) F ((0, m2))
  · refine fun e4 => ?_
    refine J_aload_n 0 0 1 dX2_startAnew_27 rfl rfl ?_
    refine J_iconst 0 dX2_startAnew_28 (by decide) ?_
    refine J_putI 1 2 8 dX2_startAnew_29 fl_2_74 rfl rfl (Nat.lt_of_lt_of_le (Nat.le_of_ble_eq_true rfl) hn) rfl rfl rfl (fun m6 => ?_)
    refine J_aload_n 0 0 1 dX2_startAnew_32 rfl rfl ?_
    refine J_iconst 0 dX2_startAnew_33 (by decide) ?_
    refine J_putI 1 2 2 dX2_startAnew_34 fl_2_68 rfl rfl (Nat.lt_of_lt_of_le (Nat.le_of_ble_eq_true rfl) hn) rfl rfl rfl (fun m7 => ?_)
    refine J_aload_n 0 0 1 dX2_startAnew_37 rfl rfl ?_
    refine J_iconst 0 dX2_startAnew_38 (by decide) ?_
    refine J_putI 1 2 3 dX2_startAnew_39 fl_2_33 rfl rfl (Nat.lt_of_lt_of_le (Nat.le_of_ble_eq_true rfl) hn) rfl rfl rfl (fun m8 => ?_)
    exact J_vretV dX2_startAnew_42 rfl rfl
  · unfold b_X2_startAnew_9
    refine J_iload_n 1 1 t3.1 dX2_startAnew_9 rfl rfl ?_
    refine J_iconst 5 dX2_startAnew_10 (by decide) ?_
    refine J_icmp_ge 27 dX2_startAnew_11 (by decide) ?_ ?_
    · exact J_lv [0] rfl (hXt3 t3.2)
    · refine J_aload_n 0 0 1 dX2_startAnew_14 rfl rfl ?_
      refine J_getR 1 2 5 3 dX2_startAnew_15 fl_2_15 rfl rfl (Nat.lt_of_lt_of_le (Nat.le_of_ble_eq_true rfl) hn) rfl ?_
      refine J_iload_n 1 1 t3.1 dX2_startAnew_18 rfl rfl ?_
      refine J_iconst 0 dX2_startAnew_19 (by decide) ?_
      refine J_zast 3 5 dX2_startAnew_20 rfl (Nat.lt_of_lt_of_le (Nat.le_of_ble_eq_true rfl) hn) (fun m5 => ?_)
      refine J_iinc 1 1 [(1, .int (t3.1 + 1)), (0, .ref 1)] t3.1 (t3.1 + 1) dX2_startAnew_21 rfl rfl (by decide) rfl ?_
      refine J_goto 9 dX2_startAnew_24 (by decide) ?_
      exact J_lv [1, 0] rfl (hBt3 (t3.1 + 1, m5))
def b_X2_takeNumber_36 (m2 : Mm) (t4 : Int32 × Int32) : Option ((Int32 × Int32) ⊕ (Int32)) :=
  if (m2 1 8) ≤ t4.2 then (some (Sum.inr t4.1)) else ((ald m2 2 400 t4.2).bind fun x6 => letv (((t4.1 * (10 : Int32)) + x6) - (48 : Int32)) fun x7 => some (Sum.inl (x7, t4.2 + 1)))
def f_X2_takeNumber (F : Nat) (m : Mm) (a1 : Int32) (a2 : Int32) : Option (Int32 × Mm) :=
  (f_X2_nextToken F m).bind fun m2 => if (m2 1 3) = 0 then (if (m2 1 9) = (3 : Int32) then (letv (m2 1 7) fun x3 => (iter F (b_X2_takeNumber_36 m2) ((0, x3) : Int32 × Int32)).bind (fun e5 : Int32 => if e5 < a1 then ((f_X2_refuse m2 3).bind fun m9 => some (0, m9)) else (if e5 ≤ a2 then (some (e5, m2)) else ((f_X2_refuse m2 3).bind fun m11 => some (0, m11))))) else ((f_X2_refuse m2 2).bind fun m13 => some (0, m13))) else (some (0, m2))
set_option maxHeartbeats 4000000 in
set_option maxRecDepth 100000 in
theorem ct_X2_takeNumber (F : Nat) {n : Nat} (hn : 113 ≤ n) (P D : Nat) (T : Option Nat) (m : Mm) (a1 : Int32) (a2 : Int32) : Ct yX2_takeNumber cX2_takeNumber 5 (some .int) 3 63 [.ref 1, .int a1, .int a2] n n m (RF P D T) (rI (RF P D T) (f_X2_takeNumber F m a1 a2)) := by
  refine Ct.ofI (own := RX2) (nm := "takeNumber") [(0, .ref 1), (1, .int a1), (2, .int a2)] (by decide) (Nat.le_of_ble_eq_true rfl) rfl rfl rfl ?_
  unfold f_X2_takeNumber
  refine J_aload_n 0 0 1 dX2_takeNumber_0 rfl rfl ?_
  refine J_callVV 1 2 0 [] dX2_takeNumber_1 mv_X2_nextToken mv_X2_nextTokenv lk_2_30 (ct_X2_nextToken F hn P D T m) rfl rfl (by decide) rfl (Nat.lt_of_lt_of_le (Nat.le_of_ble_eq_true rfl) hn) ⟨by decide, by decide⟩ (Nat.le_of_ble_eq_true rfl) (fun m2 => ?_)
  refine J_aload_n 0 0 1 dX2_takeNumber_4 rfl rfl ?_
  refine J_getI 1 2 3 dX2_takeNumber_5 fl_2_33 rfl rfl (Nat.lt_of_lt_of_le (Nat.le_of_ble_eq_true rfl) hn) ?_
  refine J_if_eq 13 dX2_takeNumber_8 (by decide) ?_ ?_
  · refine J_aload_n 0 0 1 dX2_takeNumber_13 rfl rfl ?_
    refine J_getI 1 2 9 dX2_takeNumber_14 fl_2_36 rfl rfl (Nat.lt_of_lt_of_le (Nat.le_of_ble_eq_true rfl) hn) ?_
    refine J_iconst 3 dX2_takeNumber_17 (by decide) ?_
    refine J_icmp_eq 28 dX2_takeNumber_18 (by decide) ?_ ?_
    · refine J_iconst 0 dX2_takeNumber_28 (by decide) ?_
      refine J_istore_n 3 [(3, .int 0), (0, .ref 1), (1, .int a1), (2, .int a2)] dX2_takeNumber_29 rfl (by decide) rfl ?_
      refine J_aload_n 0 1 1 dX2_takeNumber_30 rfl rfl ?_
      refine J_getI 1 2 7 dX2_takeNumber_31 fl_2_77 rfl rfl (Nat.lt_of_lt_of_le (Nat.le_of_ble_eq_true rfl) hn) ?_
      refine J_let (fun x3 => ?_)
      refine J_istore 4 [(4, .int x3), (3, .int 0), (0, .ref 1), (1, .int a1), (2, .int a2)] dX2_takeNumber_34 (by decide) rfl ?_
      refine J_lv [2, 3, 4, 1, 0] rfl ?_
      refine J_loop (pc := 36) (fun t4 : Int32 × Int32 => [(0, .ref 1), (1, .int a1), (2, .int a2), (3, .int t4.1), (4, .int t4.2)]) (fun t4 => m2) (fun _ => 67) (fun e5 => [(0, .ref 1), (1, .int a1), (2, .int a2), (3, .int e5)]) (fun _ => []) (fun e5 => m2) ?_ (fun t4 k1 hBt4 hXt4 => ?_) F ((0, x3))
      · refine fun e5 => ?_
        refine J_iload_n 3 3 e5 dX2_takeNumber_67 rfl rfl ?_
        refine J_iload_n 1 1 a1 dX2_takeNumber_68 rfl rfl ?_
        refine J_icmp_lt 77 dX2_takeNumber_69 (by decide) ?_ ?_
        · refine J_aload_n 0 0 1 dX2_takeNumber_77 rfl rfl ?_
          refine J_iconst 3 dX2_takeNumber_78 (by decide) ?_
          refine J_callVV 1 2 1 [.int 3] dX2_takeNumber_79 mv_X2_refuse mv_X2_refusev lk_2_64 (ct_X2_refuse F hn P D T m2 3) rfl rfl (by decide) rfl (Nat.lt_of_lt_of_le (Nat.le_of_ble_eq_true rfl) hn) ⟨by decide, by decide⟩ (Nat.le_of_ble_eq_true rfl) (fun m9 => ?_)
          refine J_iconst 0 dX2_takeNumber_82 (by decide) ?_
          exact J_iretI dX2_takeNumber_83 rfl rfl
        · refine J_iload_n 3 3 e5 dX2_takeNumber_72 rfl rfl ?_
          refine J_iload_n 2 2 a2 dX2_takeNumber_73 rfl rfl ?_
          refine J_icmp_le 84 dX2_takeNumber_74 (by decide) ?_ ?_
          · refine J_iload_n 3 3 e5 dX2_takeNumber_84 rfl rfl ?_
            exact J_iretI dX2_takeNumber_85 rfl rfl
          · refine J_aload_n 0 0 1 dX2_takeNumber_77 rfl rfl ?_
            refine J_iconst 3 dX2_takeNumber_78 (by decide) ?_
            refine J_callVV 1 2 1 [.int 3] dX2_takeNumber_79 mv_X2_refuse mv_X2_refusev lk_2_64 (ct_X2_refuse F hn P D T m2 3) rfl rfl (by decide) rfl (Nat.lt_of_lt_of_le (Nat.le_of_ble_eq_true rfl) hn) ⟨by decide, by decide⟩ (Nat.le_of_ble_eq_true rfl) (fun m11 => ?_)
            refine J_iconst 0 dX2_takeNumber_82 (by decide) ?_
            exact J_iretI dX2_takeNumber_83 rfl rfl
      · unfold b_X2_takeNumber_36
        refine J_iload 4 4 t4.2 dX2_takeNumber_36 rfl ?_
        refine J_aload_n 0 0 1 dX2_takeNumber_38 rfl rfl ?_
        refine J_getI 1 2 8 dX2_takeNumber_39 fl_2_74 rfl rfl (Nat.lt_of_lt_of_le (Nat.le_of_ble_eq_true rfl) hn) ?_
        refine J_icmp_ge 67 dX2_takeNumber_42 (by decide) ?_ ?_
        · exact J_lv [0, 1, 2, 3] rfl (hXt4 t4.1)
        · refine J_iload_n 3 3 t4.1 dX2_takeNumber_45 rfl rfl ?_
          refine J_bipush 10 dX2_takeNumber_46 (by decide) ?_
          refine J_imul dX2_takeNumber_48 ?_
          refine J_aload_n 0 0 1 dX2_takeNumber_49 rfl rfl ?_
          refine J_getR 1 2 0 2 dX2_takeNumber_50 fl_2_9 rfl rfl (Nat.lt_of_lt_of_le (Nat.le_of_ble_eq_true rfl) hn) rfl ?_
          refine J_iload 4 4 t4.2 dX2_takeNumber_53 rfl ?_
          refine J_bald 2 400 dX2_takeNumber_55 rfl (Nat.lt_of_lt_of_le (Nat.le_of_ble_eq_true rfl) hn) (fun x6 => ?_)
          refine J_iadd dX2_takeNumber_56 ?_
          refine J_bipush 48 dX2_takeNumber_57 (by decide) ?_
          refine J_isub dX2_takeNumber_59 ?_
          refine J_let (fun x7 => ?_)
          refine J_istore_n 3 [(3, .int x7), (0, .ref 1), (1, .int a1), (2, .int a2), (4, .int t4.2)] dX2_takeNumber_60 rfl (by decide) rfl ?_
          refine J_iinc 4 4 [(4, .int (t4.2 + 1)), (3, .int x7), (0, .ref 1), (1, .int a1), (2, .int a2)] t4.2 (t4.2 + 1) dX2_takeNumber_61 rfl rfl (by decide) rfl ?_
          refine J_goto 36 dX2_takeNumber_64 (by decide) ?_
          exact J_lv [2, 3, 4, 1, 0] rfl (hBt4 (x7, t4.2 + 1))
    · refine J_aload_n 0 0 1 dX2_takeNumber_21 rfl rfl ?_
      refine J_iconst 2 dX2_takeNumber_22 (by decide) ?_
      refine J_callVV 1 2 1 [.int 2] dX2_takeNumber_23 mv_X2_refuse mv_X2_refusev lk_2_64 (ct_X2_refuse F hn P D T m2 2) rfl rfl (by decide) rfl (Nat.lt_of_lt_of_le (Nat.le_of_ble_eq_true rfl) hn) ⟨by decide, by decide⟩ (Nat.le_of_ble_eq_true rfl) (fun m13 => ?_)
      refine J_iconst 0 dX2_takeNumber_26 (by decide) ?_
      exact J_iretI dX2_takeNumber_27 rfl rfl
  · refine J_iconst 0 dX2_takeNumber_11 (by decide) ?_
    exact J_iretI dX2_takeNumber_12 rfl rfl

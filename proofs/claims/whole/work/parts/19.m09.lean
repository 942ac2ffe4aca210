theorem fl_8_113 : FL RX8 113 1 4 := ⟨by decide, by decide, tb 274 (by decide +kernel) rfl⟩
theorem fl_8_117 : FL RX8 117 1 5 := ⟨by decide, by decide, tb 278 (by decide +kernel) rfl⟩
theorem fl_8_120 : FL RX8 120 1 6 := ⟨by decide, by decide, tb 282 (by decide +kernel) rfl⟩
theorem fl_8_130 : FL RX8 130 7 5 := ⟨by decide, by decide, tb 152 (by decide +kernel) rfl⟩
theorem fl_8_169 : FL RX8 169 1 15 := ⟨by decide, by decide, tb 315 (by decide +kernel) rfl⟩
theorem fl_8_175 : FL RX8 175 7 7 := ⟨by decide, by decide, tb 158 (by decide +kernel) rfl⟩
theorem fl_8_240 : FL RX8 240 0 1 := ⟨by decide, by decide, tb 87 (by decide +kernel) rfl⟩
theorem fl_8_242 : FL RX8 242 0 2 := ⟨by decide, by decide, tb 90 (by decide +kernel) rfl⟩
theorem fl_8_245 : FL RX8 245 0 3 := ⟨by decide, by decide, tb 93 (by decide +kernel) rfl⟩
theorem fl_8_248 : FL RX8 248 0 4 := ⟨by decide, by decide, tb 96 (by decide +kernel) rfl⟩
theorem fl_8_251 : FL RX8 251 0 5 := ⟨by decide, by decide, tb 99 (by decide +kernel) rfl⟩
theorem fl_8_254 : FL RX8 254 0 6 := ⟨by decide, by decide, tb 102 (by decide +kernel) rfl⟩
theorem lk_8_126 : Cond.methodLink RX8 126 yX8_heightIn ∈ TBg := tb 619 (by decide +kernel) rfl
theorem lk_8_163 : Cond.methodLink RX8 163 yX8_isHole ∈ TBg := tb 638 (by decide +kernel) rfl
theorem lk_8_178 : Cond.methodLink RX8 178 yX7_tonsThrough ∈ TBg := tb 642 (by decide +kernel) rfl
theorem lk_8_200 : Cond.methodLink RX8 200 yX7_passMinute ∈ TBg := tb 671 (by decide +kernel) rfl
theorem lk_8_203 : Cond.methodLink RX8 203 yX7_waterInAll ∈ TBg := tb 726 (by decide +kernel) rfl
theorem lk_8_261 : Cond.methodLink RX8 261 yX7_minutesAfloat ∈ TBg := tb 790 (by decide +kernel) rfl
theorem lk_8_267 : Cond.methodLink RX8 267 yX7_copyWithoutOrders ∈ TBg := tb 803 (by decide +kernel) rfl
theorem lk_8_283 : Cond.methodLink RX8 283 yX8_isOpenAndIdle ∈ TBg := tb 846 (by decide +kernel) rfl
theorem lk_8_286 : Cond.methodLink RX8 286 yX8_minutesIfShut ∈ TBg := tb 850 (by decide +kernel) rfl
theorem lk_8_293 : Cond.methodLink RX8 293 yX8_isLater ∈ TBg := tb 858 (by decide +kernel) rfl
theorem lk_8_368 : Cond.methodLink RX8 368 yX0_append ∈ TBg := tb 769 (by decide +kernel) rfl
theorem mv_X8_isHole : MV yX8_isHole cX8_isHole 2 (some .boolean) 1 := ⟨tb 641 (by decide +kernel) rfl, tb 1 (by decide +kernel) rfl, by decide +kernel⟩
theorem mv_X8_isHolev : Cond.instanceMethod yX8_isHole ∈ TBg ∧ Cond.selects yX8_isHole.cls yX8_isHole yX8_isHole ∈ TBg := ⟨tb 640 (by decide +kernel) rfl, tbP (k := 13) 16 (by decide +kernel) rfl⟩
theorem mv_X8_isOpenAndIdle : MV yX8_isOpenAndIdle cX8_isOpenAndIdle 2 (some .boolean) 1 := ⟨tb 849 (by decide +kernel) rfl, tb 1 (by decide +kernel) rfl, by decide +kernel⟩
theorem mv_X8_isOpenAndIdlev : Cond.instanceMethod yX8_isOpenAndIdle ∈ TBg ∧ Cond.selects yX8_isOpenAndIdle.cls yX8_isOpenAndIdle yX8_isOpenAndIdle ∈ TBg := ⟨tb 848 (by decide +kernel) rfl, tbP (k := 13) 32 (by decide +kernel) rfl⟩
theorem mv_X8_minutesIfShut : MV yX8_minutesIfShut cX8_minutesIfShut 4 (some .int) 3 := ⟨tb 853 (by decide +kernel) rfl, tb 1 (by decide +kernel) rfl, by decide +kernel⟩
theorem mv_X8_minutesIfShutv : Cond.instanceMethod yX8_minutesIfShut ∈ TBg ∧ Cond.selects yX8_minutesIfShut.cls yX8_minutesIfShut yX8_minutesIfShut ∈ TBg := ⟨tb 852 (by decide +kernel) rfl, tbP (k := 13) 33 (by decide +kernel) rfl⟩
theorem dX8_forgetImages_0 : decode cX8_forgetImages 0 = .ok (.iconst 0, 1) := by decide +kernel
theorem dX8_forgetImages_1 : decode cX8_forgetImages 1 = .ok (.istore_n 1, 1) := by decide +kernel
theorem dX8_forgetImages_2 : decode cX8_forgetImages 2 = .ok (.iload_n 1, 1) := by decide +kernel
theorem dX8_forgetImages_3 : decode cX8_forgetImages 3 = .ok (.iconst 2, 1) := by decide +kernel
theorem dX8_forgetImages_4 : decode cX8_forgetImages 4 = .ok (.if_icmp .ge 16, 3) := by decide +kernel
theorem dX8_forgetImages_7 : decode cX8_forgetImages 7 = .ok (.aload_n 0, 1) := by decide +kernel
theorem dX8_forgetImages_8 : decode cX8_forgetImages 8 = .ok (.getfield 30, 3) := by decide +kernel
theorem dX8_forgetImages_11 : decode cX8_forgetImages 11 = .ok (.iload_n 1, 1) := by decide +kernel
theorem dX8_forgetImages_12 : decode cX8_forgetImages 12 = .ok (.iconst 0, 1) := by decide +kernel
theorem dX8_forgetImages_13 : decode cX8_forgetImages 13 = .ok (.bastore, 1) := by decide +kernel
theorem dX8_forgetImages_14 : decode cX8_forgetImages 14 = .ok (.iinc 1 1, 3) := by decide +kernel
theorem dX8_forgetImages_17 : decode cX8_forgetImages 17 = .ok (.goto (-15), 3) := by decide +kernel
theorem dX8_forgetImages_20 : decode cX8_forgetImages 20 = .ok (.return_, 1) := by decide +kernel
theorem dX8_free_0 : decode cX8_free 0 = .ok (.iload_n 1, 1) := by decide +kernel
theorem dX8_free_1 : decode cX8_free 1 = .ok (.iconst 1, 1) := by decide +kernel
theorem dX8_free_2 : decode cX8_free 2 = .ok (.if_icmp .lt 9, 3) := by decide +kernel
theorem dX8_free_5 : decode cX8_free 5 = .ok (.iload_n 1, 1) := by decide +kernel
theorem dX8_free_6 : decode cX8_free 6 = .ok (.bipush 120, 2) := by decide +kernel
theorem dX8_free_8 : decode cX8_free 8 = .ok (.if_icmp .le 5, 3) := by decide +kernel
theorem dX8_free_11 : decode cX8_free 11 = .ok (.iconst (-1), 1) := by decide +kernel
theorem dX8_free_12 : decode cX8_free 12 = .ok (.ireturn, 1) := by decide +kernel
theorem dX8_free_13 : decode cX8_free 13 = .ok (.aload_n 0, 1) := by decide +kernel
theorem dX8_free_14 : decode cX8_free 14 = .ok (.getfield 23, 3) := by decide +kernel
theorem dX8_free_17 : decode cX8_free 17 = .ok (.aload_n 0, 1) := by decide +kernel
theorem dX8_free_18 : decode cX8_free 18 = .ok (.getfield 19, 3) := by decide +kernel
theorem dX8_free_21 : decode cX8_free 21 = .ok (.invokevirtual 267, 3) := by decide +kernel
theorem dX8_free_24 : decode cX8_free 24 = .ok (.aload_n 0, 1) := by decide +kernel
theorem dX8_free_25 : decode cX8_free 25 = .ok (.getfield 23, 3) := by decide +kernel
theorem dX8_free_28 : decode cX8_free 28 = .ok (.aload_n 0, 1) := by decide +kernel
theorem dX8_free_29 : decode cX8_free 29 = .ok (.getfield 64, 3) := by decide +kernel
theorem dX8_free_32 : decode cX8_free 32 = .ok (.iload_n 1, 1) := by decide +kernel
theorem dX8_free_33 : decode cX8_free 33 = .ok (.invokevirtual 261, 3) := by decide +kernel
theorem dX8_free_36 : decode cX8_free 36 = .ok (.ireturn, 1) := by decide +kernel
theorem dX8_given_0 : decode cX8_given 0 = .ok (.aload_n 0, 1) := by decide +kernel
theorem dX8_given_1 : decode cX8_given 1 = .ok (.getfield 19, 3) := by decide +kernel
theorem dX8_given_4 : decode cX8_given 4 = .ok (.getfield 154, 3) := by decide +kernel
theorem dX8_given_7 : decode cX8_given 7 = .ok (.astore_n 3, 1) := by decide +kernel
theorem dX8_given_8 : decode cX8_given 8 = .ok (.iload_n 1, 1) := by decide +kernel
theorem dX8_given_9 : decode cX8_given 9 = .ok (.ifCond .lt 11, 3) := by decide +kernel
theorem dX8_given_12 : decode cX8_given 12 = .ok (.iload_n 1, 1) := by decide +kernel
theorem dX8_given_13 : decode cX8_given 13 = .ok (.aload_n 3, 1) := by decide +kernel
theorem dX8_given_14 : decode cX8_given 14 = .ok (.getfield 237, 3) := by decide +kernel
theorem dX8_given_17 : decode cX8_given 17 = .ok (.if_icmp .lt 5, 3) := by decide +kernel
theorem dX8_given_20 : decode cX8_given 20 = .ok (.iconst (-1), 1) := by decide +kernel
theorem dX8_given_21 : decode cX8_given 21 = .ok (.ireturn, 1) := by decide +kernel
theorem dX8_given_22 : decode cX8_given 22 = .ok (.iload_n 2, 1) := by decide +kernel
theorem dX8_given_23 : decode cX8_given 23 = .ok (.tableswitch 79 0 5 #[37, 44, 51, 58, 65, 72], 37) := by decide +kernel
theorem dX8_given_60 : decode cX8_given 60 = .ok (.aload_n 3, 1) := by decide +kernel
theorem dX8_given_61 : decode cX8_given 61 = .ok (.getfield 240, 3) := by decide +kernel
theorem dX8_given_64 : decode cX8_given 64 = .ok (.iload_n 1, 1) := by decide +kernel
theorem dX8_given_65 : decode cX8_given 65 = .ok (.iaload, 1) := by decide +kernel
theorem dX8_given_66 : decode cX8_given 66 = .ok (.ireturn, 1) := by decide +kernel
theorem dX8_given_67 : decode cX8_given 67 = .ok (.aload_n 3, 1) := by decide +kernel
theorem dX8_given_68 : decode cX8_given 68 = .ok (.getfield 242, 3) := by decide +kernel
theorem dX8_given_71 : decode cX8_given 71 = .ok (.iload_n 1, 1) := by decide +kernel
theorem dX8_given_72 : decode cX8_given 72 = .ok (.iaload, 1) := by decide +kernel
theorem dX8_given_73 : decode cX8_given 73 = .ok (.ireturn, 1) := by decide +kernel
theorem dX8_given_74 : decode cX8_given 74 = .ok (.aload_n 3, 1) := by decide +kernel
theorem dX8_given_75 : decode cX8_given 75 = .ok (.getfield 245, 3) := by decide +kernel
theorem dX8_given_78 : decode cX8_given 78 = .ok (.iload_n 1, 1) := by decide +kernel
theorem dX8_given_79 : decode cX8_given 79 = .ok (.iaload, 1) := by decide +kernel
theorem dX8_given_80 : decode cX8_given 80 = .ok (.ireturn, 1) := by decide +kernel
theorem dX8_given_81 : decode cX8_given 81 = .ok (.aload_n 3, 1) := by decide +kernel
theorem dX8_given_82 : decode cX8_given 82 = .ok (.getfield 248, 3) := by decide +kernel
theorem dX8_given_85 : decode cX8_given 85 = .ok (.iload_n 1, 1) := by decide +kernel
theorem dX8_given_86 : decode cX8_given 86 = .ok (.iaload, 1) := by decide +kernel
theorem dX8_given_87 : decode cX8_given 87 = .ok (.ireturn, 1) := by decide +kernel
theorem dX8_given_88 : decode cX8_given 88 = .ok (.aload_n 3, 1) := by decide +kernel
theorem dX8_given_89 : decode cX8_given 89 = .ok (.getfield 251, 3) := by decide +kernel
theorem dX8_given_92 : decode cX8_given 92 = .ok (.iload_n 1, 1) := by decide +kernel
theorem dX8_given_93 : decode cX8_given 93 = .ok (.iaload, 1) := by decide +kernel
theorem dX8_given_94 : decode cX8_given 94 = .ok (.ireturn, 1) := by decide +kernel
theorem dX8_given_95 : decode cX8_given 95 = .ok (.aload_n 3, 1) := by decide +kernel
theorem dX8_given_96 : decode cX8_given 96 = .ok (.getfield 254, 3) := by decide +kernel
theorem dX8_given_99 : decode cX8_given 99 = .ok (.iload_n 1, 1) := by decide +kernel
theorem dX8_given_100 : decode cX8_given 100 = .ok (.iaload, 1) := by decide +kernel
theorem dX8_given_101 : decode cX8_given 101 = .ok (.ireturn, 1) := by decide +kernel
theorem dX8_given_102 : decode cX8_given 102 = .ok (.iconst (-1), 1) := by decide +kernel
theorem dX8_given_103 : decode cX8_given 103 = .ok (.ireturn, 1) := by decide +kernel
theorem dX8_go_0 : decode cX8_go 0 = .ok (.iload_n 1, 1) := by decide +kernel
theorem dX8_go_1 : decode cX8_go 1 = .ok (.iconst 1, 1) := by decide +kernel
theorem dX8_go_2 : decode cX8_go 2 = .ok (.if_icmp .lt 9, 3) := by decide +kernel
theorem dX8_go_5 : decode cX8_go 5 = .ok (.iload_n 1, 1) := by decide +kernel
theorem dX8_go_6 : decode cX8_go 6 = .ok (.bipush 120, 2) := by decide +kernel
theorem dX8_go_8 : decode cX8_go 8 = .ok (.if_icmp .le 5, 3) := by decide +kernel
theorem dX8_go_11 : decode cX8_go 11 = .ok (.iconst (-1), 1) := by decide +kernel
theorem dX8_go_12 : decode cX8_go 12 = .ok (.ireturn, 1) := by decide +kernel
theorem dX8_go_13 : decode cX8_go 13 = .ok (.iconst 0, 1) := by decide +kernel
theorem dX8_go_14 : decode cX8_go 14 = .ok (.istore_n 2, 1) := by decide +kernel
theorem dX8_go_15 : decode cX8_go 15 = .ok (.iload_n 2, 1) := by decide +kernel
theorem dX8_go_16 : decode cX8_go 16 = .ok (.iload_n 1, 1) := by decide +kernel
theorem dX8_go_17 : decode cX8_go 17 = .ok (.if_icmp .ge 20, 3) := by decide +kernel
theorem dX8_go_20 : decode cX8_go 20 = .ok (.aload_n 0, 1) := by decide +kernel
theorem dX8_go_21 : decode cX8_go 21 = .ok (.getfield 19, 3) := by decide +kernel
theorem dX8_go_24 : decode cX8_go 24 = .ok (.aload_n 0, 1) := by decide +kernel
theorem dX8_go_25 : decode cX8_go 25 = .ok (.getfield 64, 3) := by decide +kernel
theorem dX8_go_28 : decode cX8_go 28 = .ok (.invokevirtual 200, 3) := by decide +kernel
theorem dX8_go_31 : decode cX8_go 31 = .ok (.iinc 2 1, 3) := by decide +kernel
theorem dX8_go_34 : decode cX8_go 34 = .ok (.goto (-19), 3) := by decide +kernel
theorem dX8_go_37 : decode cX8_go 37 = .ok (.aload_n 0, 1) := by decide +kernel
theorem dX8_go_38 : decode cX8_go 38 = .ok (.getfield 37, 3) := by decide +kernel
theorem dX8_go_41 : decode cX8_go 41 = .ok (.invokevirtual 103, 3) := by decide +kernel
theorem dX8_go_44 : decode cX8_go 44 = .ok (.aload_n 0, 1) := by decide +kernel
theorem dX8_go_45 : decode cX8_go 45 = .ok (.getfield 19, 3) := by decide +kernel
theorem dX8_go_48 : decode cX8_go 48 = .ok (.aload_n 0, 1) := by decide +kernel
theorem dX8_go_49 : decode cX8_go 49 = .ok (.getfield 64, 3) := by decide +kernel
theorem dX8_go_52 : decode cX8_go 52 = .ok (.invokevirtual 203, 3) := by decide +kernel
theorem dX8_go_55 : decode cX8_go 55 = .ok (.ireturn, 1) := by decide +kernel
theorem dX8_isOpenAndIdle_0 : decode cX8_isOpenAndIdle 0 = .ok (.aload_n 0, 1) := by decide +kernel
theorem dX8_isOpenAndIdle_1 : decode cX8_isOpenAndIdle 1 = .ok (.getfield 19, 3) := by decide +kernel
theorem dX8_isOpenAndIdle_4 : decode cX8_isOpenAndIdle 4 = .ok (.getfield 151, 3) := by decide +kernel
theorem dX8_isOpenAndIdle_7 : decode cX8_isOpenAndIdle 7 = .ok (.iload_n 1, 1) := by decide +kernel
theorem dX8_isOpenAndIdle_8 : decode cX8_isOpenAndIdle 8 = .ok (.iaload, 1) := by decide +kernel
theorem dX8_isOpenAndIdle_9 : decode cX8_isOpenAndIdle 9 = .ok (.iconst 1, 1) := by decide +kernel
theorem dX8_isOpenAndIdle_10 : decode cX8_isOpenAndIdle 10 = .ok (.if_icmp .ne 21, 3) := by decide +kernel
theorem dX8_isOpenAndIdle_13 : decode cX8_isOpenAndIdle 13 = .ok (.aload_n 0, 1) := by decide +kernel
theorem dX8_isOpenAndIdle_14 : decode cX8_isOpenAndIdle 14 = .ok (.getfield 19, 3) := by decide +kernel
theorem dX8_isOpenAndIdle_17 : decode cX8_isOpenAndIdle 17 = .ok (.getfield 154, 3) := by decide +kernel
theorem dX8_isOpenAndIdle_20 : decode cX8_isOpenAndIdle 20 = .ok (.iload_n 1, 1) := by decide +kernel
theorem dX8_isOpenAndIdle_21 : decode cX8_isOpenAndIdle 21 = .ok (.invokevirtual 158, 3) := by decide +kernel
theorem dX8_isOpenAndIdle_24 : decode cX8_isOpenAndIdle 24 = .ok (.ifCond .ne 7, 3) := by decide +kernel
theorem dX8_isOpenAndIdle_27 : decode cX8_isOpenAndIdle 27 = .ok (.iconst 1, 1) := by decide +kernel
theorem dX8_isOpenAndIdle_28 : decode cX8_isOpenAndIdle 28 = .ok (.goto 4, 3) := by decide +kernel
theorem dX8_isOpenAndIdle_31 : decode cX8_isOpenAndIdle 31 = .ok (.iconst 0, 1) := by decide +kernel
theorem dX8_isOpenAndIdle_32 : decode cX8_isOpenAndIdle 32 = .ok (.ireturn, 1) := by decide +kernel
theorem dX8_minutesIfShut_0 : decode cX8_minutesIfShut 0 = .ok (.aload_n 0, 1) := by decide +kernel
theorem dX8_minutesIfShut_1 : decode cX8_minutesIfShut 1 = .ok (.getfield 23, 3) := by decide +kernel
theorem dX8_minutesIfShut_4 : decode cX8_minutesIfShut 4 = .ok (.aload_n 0, 1) := by decide +kernel
theorem dX8_minutesIfShut_5 : decode cX8_minutesIfShut 5 = .ok (.getfield 19, 3) := by decide +kernel
theorem dX8_minutesIfShut_8 : decode cX8_minutesIfShut 8 = .ok (.invokevirtual 267, 3) := by decide +kernel
theorem dX8_minutesIfShut_11 : decode cX8_minutesIfShut 11 = .ok (.aload_n 0, 1) := by decide +kernel
theorem dX8_minutesIfShut_12 : decode cX8_minutesIfShut 12 = .ok (.getfield 23, 3) := by decide +kernel
theorem dX8_minutesIfShut_15 : decode cX8_minutesIfShut 15 = .ok (.getfield 154, 3) := by decide +kernel
theorem dX8_minutesIfShut_18 : decode cX8_minutesIfShut 18 = .ok (.aload_n 0, 1) := by decide +kernel
theorem dX8_minutesIfShut_19 : decode cX8_minutesIfShut 19 = .ok (.getfield 19, 3) := by decide +kernel
theorem dX8_minutesIfShut_22 : decode cX8_minutesIfShut 22 = .ok (.getfield 211, 3) := by decide +kernel
theorem dX8_minutesIfShut_25 : decode cX8_minutesIfShut 25 = .ok (.iload_n 2, 1) := by decide +kernel
theorem dX8_minutesIfShut_26 : decode cX8_minutesIfShut 26 = .ok (.iadd, 1) := by decide +kernel
theorem dX8_minutesIfShut_27 : decode cX8_minutesIfShut 27 = .ok (.iconst 0, 1) := by decide +kernel
theorem dX8_minutesIfShut_28 : decode cX8_minutesIfShut 28 = .ok (.iload_n 1, 1) := by decide +kernel
theorem dX8_minutesIfShut_29 : decode cX8_minutesIfShut 29 = .ok (.iconst 0, 1) := by decide +kernel
theorem dX8_minutesIfShut_30 : decode cX8_minutesIfShut 30 = .ok (.invokevirtual 368, 3) := by decide +kernel
theorem dX8_minutesIfShut_33 : decode cX8_minutesIfShut 33 = .ok (.pop, 1) := by decide +kernel
theorem dX8_minutesIfShut_34 : decode cX8_minutesIfShut 34 = .ok (.aload_n 0, 1) := by decide +kernel
theorem dX8_minutesIfShut_35 : decode cX8_minutesIfShut 35 = .ok (.getfield 23, 3) := by decide +kernel
theorem dX8_minutesIfShut_38 : decode cX8_minutesIfShut 38 = .ok (.aload_n 0, 1) := by decide +kernel
theorem dX8_minutesIfShut_39 : decode cX8_minutesIfShut 39 = .ok (.getfield 64, 3) := by decide +kernel
theorem dX8_minutesIfShut_42 : decode cX8_minutesIfShut 42 = .ok (.iload_n 3, 1) := by decide +kernel
theorem dX8_minutesIfShut_43 : decode cX8_minutesIfShut 43 = .ok (.invokevirtual 261, 3) := by decide +kernel
theorem dX8_minutesIfShut_46 : decode cX8_minutesIfShut 46 = .ok (.ireturn, 1) := by decide +kernel
theorem dX8_helps_0 : decode cX8_helps 0 = .ok (.iload_n 1, 1) := by decide +kernel
theorem dX8_helps_1 : decode cX8_helps 1 = .ok (.iconst 1, 1) := by decide +kernel
theorem dX8_helps_2 : decode cX8_helps 2 = .ok (.if_icmp .lt 9, 3) := by decide +kernel
theorem dX8_helps_5 : decode cX8_helps 5 = .ok (.iload_n 1, 1) := by decide +kernel
theorem dX8_helps_6 : decode cX8_helps 6 = .ok (.bipush 60, 2) := by decide +kernel
theorem dX8_helps_8 : decode cX8_helps 8 = .ok (.if_icmp .le 5, 3) := by decide +kernel
theorem dX8_helps_11 : decode cX8_helps 11 = .ok (.iconst (-1), 1) := by decide +kernel
theorem dX8_helps_12 : decode cX8_helps 12 = .ok (.ireturn, 1) := by decide +kernel
theorem dX8_helps_13 : decode cX8_helps 13 = .ok (.aload_n 0, 1) := by decide +kernel
theorem dX8_helps_14 : decode cX8_helps 14 = .ok (.getfield 23, 3) := by decide +kernel
theorem dX8_helps_17 : decode cX8_helps 17 = .ok (.aload_n 0, 1) := by decide +kernel
theorem dX8_helps_18 : decode cX8_helps 18 = .ok (.getfield 19, 3) := by decide +kernel
theorem dX8_helps_21 : decode cX8_helps 21 = .ok (.invokevirtual 267, 3) := by decide +kernel
theorem dX8_helps_24 : decode cX8_helps 24 = .ok (.aload_n 0, 1) := by decide +kernel
theorem dX8_helps_25 : decode cX8_helps 25 = .ok (.getfield 23, 3) := by decide +kernel
theorem dX8_helps_28 : decode cX8_helps 28 = .ok (.aload_n 0, 1) := by decide +kernel
theorem dX8_helps_29 : decode cX8_helps 29 = .ok (.getfield 64, 3) := by decide +kernel
theorem dX8_helps_32 : decode cX8_helps 32 = .ok (.iload_n 1, 1) := by decide +kernel
theorem dX8_helps_33 : decode cX8_helps 33 = .ok (.invokevirtual 261, 3) := by decide +kernel
theorem dX8_helps_36 : decode cX8_helps 36 = .ok (.istore_n 2, 1) := by decide +kernel
theorem dX8_helps_37 : decode cX8_helps 37 = .ok (.iconst 0, 1) := by decide +kernel
theorem dX8_helps_38 : decode cX8_helps 38 = .ok (.istore_n 3, 1) := by decide +kernel
theorem dX8_helps_39 : decode cX8_helps 39 = .ok (.iconst 0, 1) := by decide +kernel
theorem dX8_helps_40 : decode cX8_helps 40 = .ok (.istore 4, 2) := by decide +kernel
theorem dX8_helps_42 : decode cX8_helps 42 = .ok (.iload 4, 2) := by decide +kernel
theorem dX8_helps_44 : decode cX8_helps 44 = .ok (.aload_n 0, 1) := by decide +kernel
theorem dX8_helps_45 : decode cX8_helps 45 = .ok (.getfield 64, 3) := by decide +kernel
theorem dX8_helps_48 : decode cX8_helps 48 = .ok (.getfield 290, 3) := by decide +kernel
theorem dX8_helps_51 : decode cX8_helps 51 = .ok (.if_icmp .ge 40, 3) := by decide +kernel
theorem dX8_helps_54 : decode cX8_helps 54 = .ok (.aload_n 0, 1) := by decide +kernel
theorem dX8_helps_55 : decode cX8_helps 55 = .ok (.iload 4, 2) := by decide +kernel
theorem dX8_helps_57 : decode cX8_helps 57 = .ok (.invokevirtual 283, 3) := by decide +kernel
theorem dX8_helps_60 : decode cX8_helps 60 = .ok (.ifCond .eq 25, 3) := by decide +kernel
theorem dX8_helps_63 : decode cX8_helps 63 = .ok (.aload_n 0, 1) := by decide +kernel
theorem dX8_helps_64 : decode cX8_helps 64 = .ok (.iload 4, 2) := by decide +kernel
theorem dX8_helps_66 : decode cX8_helps 66 = .ok (.iconst 0, 1) := by decide +kernel
theorem dX8_helps_67 : decode cX8_helps 67 = .ok (.iload_n 1, 1) := by decide +kernel
theorem dX8_helps_68 : decode cX8_helps 68 = .ok (.invokevirtual 286, 3) := by decide +kernel
theorem dX8_helps_71 : decode cX8_helps 71 = .ok (.iload_n 2, 1) := by decide +kernel
theorem dX8_helps_72 : decode cX8_helps 72 = .ok (.invokestatic 293, 3) := by decide +kernel
theorem dX8_helps_75 : decode cX8_helps 75 = .ok (.ifCond .eq 10, 3) := by decide +kernel
theorem dX8_helps_78 : decode cX8_helps 78 = .ok (.iload_n 3, 1) := by decide +kernel
theorem dX8_helps_79 : decode cX8_helps 79 = .ok (.iconst 1, 1) := by decide +kernel
theorem dX8_helps_80 : decode cX8_helps 80 = .ok (.iload 4, 2) := by decide +kernel
theorem dX8_helps_82 : decode cX8_helps 82 = .ok (.ishl, 1) := by decide +kernel
theorem dX8_helps_83 : decode cX8_helps 83 = .ok (.ior, 1) := by decide +kernel
theorem dX8_helps_84 : decode cX8_helps 84 = .ok (.istore_n 3, 1) := by decide +kernel
theorem dX8_helps_85 : decode cX8_helps 85 = .ok (.iinc 4 1, 3) := by decide +kernel
theorem dX8_helps_88 : decode cX8_helps 88 = .ok (.goto (-46), 3) := by decide +kernel
theorem dX8_helps_91 : decode cX8_helps 91 = .ok (.iload_n 3, 1) := by decide +kernel
theorem dX8_helps_92 : decode cX8_helps 92 = .ok (.ireturn, 1) := by decide +kernel
theorem dX8_hold_0 : decode cX8_hold 0 = .ok (.aload_n 0, 1) := by decide +kernel
theorem dX8_hold_1 : decode cX8_hold 1 = .ok (.iload_n 1, 1) := by decide +kernel
theorem dX8_hold_2 : decode cX8_hold 2 = .ok (.invokevirtual 109, 3) := by decide +kernel
theorem dX8_hold_5 : decode cX8_hold 5 = .ok (.ifCond .ne 5, 3) := by decide +kernel
theorem dX8_hold_8 : decode cX8_hold 8 = .ok (.iconst (-1), 1) := by decide +kernel
theorem dX8_hold_9 : decode cX8_hold 9 = .ok (.ireturn, 1) := by decide +kernel
theorem dX8_hold_10 : decode cX8_hold 10 = .ok (.iload_n 2, 1) := by decide +kernel
theorem dX8_hold_11 : decode cX8_hold 11 = .ok (.tableswitch 109 0 5 #[37, 47, 57, 67, 77, 99], 37) := by decide +kernel
theorem dX8_hold_48 : decode cX8_hold 48 = .ok (.aload_n 0, 1) := by decide +kernel
theorem dX8_hold_49 : decode cX8_hold 49 = .ok (.getfield 64, 3) := by decide +kernel
theorem dX8_hold_52 : decode cX8_hold 52 = .ok (.getfield 113, 3) := by decide +kernel
theorem dX8_hold_55 : decode cX8_hold 55 = .ok (.iload_n 1, 1) := by decide +kernel
theorem dX8_hold_56 : decode cX8_hold 56 = .ok (.iaload, 1) := by decide +kernel
theorem dX8_hold_57 : decode cX8_hold 57 = .ok (.ireturn, 1) := by decide +kernel
theorem dX8_hold_58 : decode cX8_hold 58 = .ok (.aload_n 0, 1) := by decide +kernel
theorem dX8_hold_59 : decode cX8_hold 59 = .ok (.getfield 64, 3) := by decide +kernel
theorem dX8_hold_62 : decode cX8_hold 62 = .ok (.getfield 117, 3) := by decide +kernel
theorem dX8_hold_65 : decode cX8_hold 65 = .ok (.iload_n 1, 1) := by decide +kernel
theorem dX8_hold_66 : decode cX8_hold 66 = .ok (.iaload, 1) := by decide +kernel
theorem dX8_hold_67 : decode cX8_hold 67 = .ok (.ireturn, 1) := by decide +kernel
theorem dX8_hold_68 : decode cX8_hold 68 = .ok (.aload_n 0, 1) := by decide +kernel
theorem dX8_hold_69 : decode cX8_hold 69 = .ok (.getfield 64, 3) := by decide +kernel
theorem dX8_hold_72 : decode cX8_hold 72 = .ok (.getfield 120, 3) := by decide +kernel
theorem dX8_hold_75 : decode cX8_hold 75 = .ok (.iload_n 1, 1) := by decide +kernel
theorem dX8_hold_76 : decode cX8_hold 76 = .ok (.iaload, 1) := by decide +kernel
theorem dX8_hold_77 : decode cX8_hold 77 = .ok (.ireturn, 1) := by decide +kernel
theorem dX8_hold_78 : decode cX8_hold 78 = .ok (.aload_n 0, 1) := by decide +kernel
theorem dX8_hold_79 : decode cX8_hold 79 = .ok (.getfield 19, 3) := by decide +kernel
theorem dX8_hold_82 : decode cX8_hold 82 = .ok (.getfield 123, 3) := by decide +kernel
theorem dX8_hold_85 : decode cX8_hold 85 = .ok (.iload_n 1, 1) := by decide +kernel
theorem dX8_hold_86 : decode cX8_hold 86 = .ok (.iaload, 1) := by decide +kernel
theorem dX8_hold_87 : decode cX8_hold 87 = .ok (.ireturn, 1) := by decide +kernel
theorem dX8_hold_88 : decode cX8_hold 88 = .ok (.aload_n 0, 1) := by decide +kernel
theorem dX8_hold_89 : decode cX8_hold 89 = .ok (.getfield 64, 3) := by decide +kernel
theorem dX8_hold_92 : decode cX8_hold 92 = .ok (.getfield 113, 3) := by decide +kernel
theorem dX8_hold_95 : decode cX8_hold 95 = .ok (.iload_n 1, 1) := by decide +kernel
theorem dX8_hold_96 : decode cX8_hold 96 = .ok (.iaload, 1) := by decide +kernel
theorem dX8_hold_97 : decode cX8_hold 97 = .ok (.aload_n 0, 1) := by decide +kernel
theorem dX8_hold_98 : decode cX8_hold 98 = .ok (.getfield 19, 3) := by decide +kernel
theorem dX8_hold_101 : decode cX8_hold 101 = .ok (.getfield 123, 3) := by decide +kernel
theorem dX8_hold_104 : decode cX8_hold 104 = .ok (.iload_n 1, 1) := by decide +kernel
theorem dX8_hold_105 : decode cX8_hold 105 = .ok (.iaload, 1) := by decide +kernel
theorem dX8_hold_106 : decode cX8_hold 106 = .ok (.invokestatic 126, 3) := by decide +kernel
theorem dX8_hold_109 : decode cX8_hold 109 = .ok (.ireturn, 1) := by decide +kernel
theorem dX8_hold_110 : decode cX8_hold 110 = .ok (.aload_n 0, 1) := by decide +kernel
theorem dX8_hold_111 : decode cX8_hold 111 = .ok (.getfield 19, 3) := by decide +kernel
theorem dX8_hold_114 : decode cX8_hold 114 = .ok (.getfield 130, 3) := by decide +kernel
theorem dX8_hold_117 : decode cX8_hold 117 = .ok (.iload_n 1, 1) := by decide +kernel
theorem dX8_hold_118 : decode cX8_hold 118 = .ok (.iaload, 1) := by decide +kernel
theorem dX8_hold_119 : decode cX8_hold 119 = .ok (.ireturn, 1) := by decide +kernel
theorem dX8_hold_120 : decode cX8_hold 120 = .ok (.iconst (-1), 1) := by decide +kernel
theorem dX8_hold_121 : decode cX8_hold 121 = .ok (.ireturn, 1) := by decide +kernel
theorem dX8_isHole_0 : decode cX8_isHole 0 = .ok (.iload_n 1, 1) := by decide +kernel
theorem dX8_isHole_1 : decode cX8_isHole 1 = .ok (.ifCond .lt 18, 3) := by decide +kernel
theorem dX8_isHole_4 : decode cX8_isHole 4 = .ok (.iload_n 1, 1) := by decide +kernel
theorem dX8_isHole_5 : decode cX8_isHole 5 = .ok (.aload_n 0, 1) := by decide +kernel
theorem dX8_isHole_6 : decode cX8_isHole 6 = .ok (.getfield 64, 3) := by decide +kernel
theorem dX8_isHole_9 : decode cX8_isHole 9 = .ok (.getfield 353, 3) := by decide +kernel
theorem dX8_isHole_12 : decode cX8_isHole 12 = .ok (.if_icmp .ge 7, 3) := by decide +kernel
theorem dX8_isHole_15 : decode cX8_isHole 15 = .ok (.iconst 1, 1) := by decide +kernel
theorem dX8_isHole_16 : decode cX8_isHole 16 = .ok (.goto 4, 3) := by decide +kernel
theorem dX8_isHole_19 : decode cX8_isHole 19 = .ok (.iconst 0, 1) := by decide +kernel
theorem dX8_isHole_20 : decode cX8_isHole 20 = .ok (.ireturn, 1) := by decide +kernel
theorem dX8_hole_0 : decode cX8_hole 0 = .ok (.aload_n 0, 1) := by decide +kernel
theorem dX8_hole_1 : decode cX8_hole 1 = .ok (.iload_n 1, 1) := by decide +kernel
theorem dX8_hole_2 : decode cX8_hole 2 = .ok (.invokevirtual 163, 3) := by decide +kernel
theorem dX8_hole_5 : decode cX8_hole 5 = .ok (.ifCond .ne 5, 3) := by decide +kernel
theorem dX8_hole_8 : decode cX8_hole 8 = .ok (.iconst (-1), 1) := by decide +kernel
theorem dX8_hole_9 : decode cX8_hole 9 = .ok (.ireturn, 1) := by decide +kernel
theorem dX8_hole_10 : decode cX8_hole 10 = .ok (.iload_n 2, 1) := by decide +kernel
theorem dX8_hole_11 : decode cX8_hole 11 = .ok (.tableswitch 86 0 4 #[33, 43, 53, 63, 73], 33) := by decide +kernel
theorem dX8_hole_44 : decode cX8_hole 44 = .ok (.aload_n 0, 1) := by decide +kernel
theorem dX8_hole_45 : decode cX8_hole 45 = .ok (.getfield 64, 3) := by decide +kernel
theorem dX8_hole_48 : decode cX8_hole 48 = .ok (.getfield 166, 3) := by decide +kernel
theorem dX8_hole_51 : decode cX8_hole 51 = .ok (.iload_n 1, 1) := by decide +kernel
theorem dX8_hole_52 : decode cX8_hole 52 = .ok (.iaload, 1) := by decide +kernel
theorem dX8_hole_53 : decode cX8_hole 53 = .ok (.ireturn, 1) := by decide +kernel
theorem dX8_hole_54 : decode cX8_hole 54 = .ok (.aload_n 0, 1) := by decide +kernel
theorem dX8_hole_55 : decode cX8_hole 55 = .ok (.getfield 64, 3) := by decide +kernel
theorem dX8_hole_58 : decode cX8_hole 58 = .ok (.getfield 169, 3) := by decide +kernel
theorem dX8_hole_61 : decode cX8_hole 61 = .ok (.iload_n 1, 1) := by decide +kernel
theorem dX8_hole_62 : decode cX8_hole 62 = .ok (.iaload, 1) := by decide +kernel
theorem dX8_hole_63 : decode cX8_hole 63 = .ok (.ireturn, 1) := by decide +kernel
theorem dX8_hole_64 : decode cX8_hole 64 = .ok (.aload_n 0, 1) := by decide +kernel
theorem dX8_hole_65 : decode cX8_hole 65 = .ok (.getfield 64, 3) := by decide +kernel
theorem dX8_hole_68 : decode cX8_hole 68 = .ok (.getfield 172, 3) := by decide +kernel
theorem dX8_hole_71 : decode cX8_hole 71 = .ok (.iload_n 1, 1) := by decide +kernel
theorem dX8_hole_72 : decode cX8_hole 72 = .ok (.iaload, 1) := by decide +kernel
theorem dX8_hole_73 : decode cX8_hole 73 = .ok (.ireturn, 1) := by decide +kernel
theorem dX8_hole_74 : decode cX8_hole 74 = .ok (.aload_n 0, 1) := by decide +kernel
theorem dX8_hole_75 : decode cX8_hole 75 = .ok (.getfield 19, 3) := by decide +kernel
theorem dX8_hole_78 : decode cX8_hole 78 = .ok (.getfield 175, 3) := by decide +kernel
theorem dX8_hole_81 : decode cX8_hole 81 = .ok (.iload_n 1, 1) := by decide +kernel
theorem dX8_hole_82 : decode cX8_hole 82 = .ok (.iaload, 1) := by decide +kernel
theorem dX8_hole_83 : decode cX8_hole 83 = .ok (.ireturn, 1) := by decide +kernel
theorem dX8_hole_84 : decode cX8_hole 84 = .ok (.aload_n 0, 1) := by decide +kernel
theorem dX8_hole_85 : decode cX8_hole 85 = .ok (.getfield 19, 3) := by decide +kernel
theorem dX8_hole_88 : decode cX8_hole 88 = .ok (.aload_n 0, 1) := by decide +kernel
theorem dX8_hole_89 : decode cX8_hole 89 = .ok (.getfield 64, 3) := by decide +kernel
theorem dX8_hole_92 : decode cX8_hole 92 = .ok (.iload_n 1, 1) := by decide +kernel
theorem dX8_hole_93 : decode cX8_hole 93 = .ok (.invokevirtual 178, 3) := by decide +kernel
theorem dX8_hole_96 : decode cX8_hole 96 = .ok (.ireturn, 1) := by decide +kernel
theorem dX8_hole_97 : decode cX8_hole 97 = .ok (.iconst (-1), 1) := by decide +kernel
theorem dX8_hole_98 : decode cX8_hole 98 = .ok (.ireturn, 1) := by decide +kernel
theorem dX8_isPump_0 : decode cX8_isPump 0 = .ok (.iload_n 1, 1) := by decide +kernel
theorem dX8_isPump_1 : decode cX8_isPump 1 = .ok (.ifCond .lt 18, 3) := by decide +kernel
theorem dX8_isPump_4 : decode cX8_isPump 4 = .ok (.iload_n 1, 1) := by decide +kernel
theorem dX8_isPump_5 : decode cX8_isPump 5 = .ok (.aload_n 0, 1) := by decide +kernel
theorem dX8_isPump_6 : decode cX8_isPump 6 = .ok (.getfield 64, 3) := by decide +kernel
theorem dX8_isPump_9 : decode cX8_isPump 9 = .ok (.getfield 356, 3) := by decide +kernel
theorem dX8_isPump_12 : decode cX8_isPump 12 = .ok (.if_icmp .ge 7, 3) := by decide +kernel
theorem dX8_isPump_15 : decode cX8_isPump 15 = .ok (.iconst 1, 1) := by decide +kernel
theorem dX8_isPump_16 : decode cX8_isPump 16 = .ok (.goto 4, 3) := by decide +kernel
theorem dX8_isPump_19 : decode cX8_isPump 19 = .ok (.iconst 0, 1) := by decide +kernel
theorem dX8_isPump_20 : decode cX8_isPump 20 = .ok (.ireturn, 1) := by decide +kernel
def b_X8_forgetImages_2  (t1 : Int32 × Mm) : Option ((Int32 × Mm) ⊕ (Mm)) :=
  if (2 : Int32) ≤ t1.1 then (some (Sum.inr t1.2)) else ((ast t1.2 33 2 t1.1 (vp_nar .boolean 0)).bind fun m3 => some (Sum.inl (t1.1 + 1, m3)))
def f_X8_forgetImages (F : Nat) (m : Mm) : Option (Mm) :=
  (iter F b_X8_forgetImages_2 ((0, m) : Int32 × Mm)).bind (fun e2 : Mm => some e2)
set_option maxHeartbeats 4000000 in
set_option maxRecDepth 100000 in
theorem ct_X8_forgetImages (F : Nat) {n : Nat} (hn : 113 ≤ n) (P D : Nat) (T : Option Nat) (m : Mm)  : Ct yX8_forgetImages cX8_forgetImages 2 none 0 0 [.ref 0] n n m (RF P D T) (rV (RF P D T) (f_X8_forgetImages F m)) := by
  refine Ct.ofV (own := RX8) (nm := "forgetImages") [(0, .ref 0)] (by decide) (Nat.le_of_ble_eq_true rfl) rfl rfl rfl ?_
  unfold f_X8_forgetImages
  refine J_iconst 0 dX8_forgetImages_0 (by decide) ?_
  refine J_istore_n 1 [(1, .int 0), (0, .ref 0)] dX8_forgetImages_1 rfl (by decide) rfl ?_
  refine J_lv [1, 0] rfl ?_
  refine J_loop (pc := 2) (fun t1 : Int32 × Mm => [(0, .ref 0), (1, .int t1.1)]) (fun t1 => t1.2) (fun _ => 20) (fun e2 => []) (fun _ => []) (fun e2 => e2) ?_ (fun t1 k1 hBt1 hXt1 => ?_) F ((0, m))
  · refine fun e2 => ?_
    exact J_vretV dX8_forgetImages_20 rfl rfl
  · unfold b_X8_forgetImages_2
    refine J_iload_n 1 1 t1.1 dX8_forgetImages_2 rfl rfl ?_
    refine J_iconst 2 dX8_forgetImages_3 (by decide) ?_
    refine J_icmp_ge 20 dX8_forgetImages_4 (by decide) ?_ ?_
    · exact J_lv [] rfl (hXt1 t1.2)
    · refine J_aload_n 0 0 0 dX8_forgetImages_7 rfl rfl ?_
      refine J_getR 0 8 4 33 dX8_forgetImages_8 fl_8_30 rfl rfl (Nat.lt_of_lt_of_le (Nat.le_of_ble_eq_true rfl) hn) rfl ?_
      refine J_iload_n 1 1 t1.1 dX8_forgetImages_11 rfl rfl ?_
      refine J_iconst 0 dX8_forgetImages_12 (by decide) ?_
      refine J_zast 33 2 dX8_forgetImages_13 rfl (Nat.lt_of_lt_of_le (Nat.le_of_ble_eq_true rfl) hn) (fun m3 => ?_)
      refine J_iinc 1 1 [(1, .int (t1.1 + 1)), (0, .ref 0)] t1.1 (t1.1 + 1) dX8_forgetImages_14 rfl rfl (by decide) rfl ?_
      refine J_goto 2 dX8_forgetImages_17 (by decide) ?_
      exact J_lv [1, 0] rfl (hBt1 (t1.1 + 1, m3))
def f_X8_free (F : Nat) (m : Mm) (P : Nat) (a1 : Int32) : Option (Int32 × Mm) :=
  if a1 < (1 : Int32) then (some ((-1), m)) else (if a1 ≤ (120 : Int32) then ((f_X7_copyWithoutOrders m 18 4).bind fun m2 => bind2 (f_X7_minutesAfloat F m2 18 P a1) fun x3 m4 => some (x3, m4)) else (some ((-1), m)))
set_option maxHeartbeats 4000000 in
set_option maxRecDepth 100000 in
theorem ct_X8_free (F : Nat) {n : Nat} (hn : 113 ≤ n) (P D : Nat) (T : Option Nat) (hP : isPl P) (m : Mm) (a1 : Int32) : Ct yX8_free cX8_free 2 (some .int) 5 115 [.ref 0, .int a1] n n m (RF P D T) (rI (RF P D T) (f_X8_free F m P a1)) := by
  refine Ct.ofI (own := RX8) (nm := "free") [(0, .ref 0), (1, .int a1)] (by decide) (Nat.le_of_ble_eq_true rfl) rfl rfl rfl ?_
  unfold f_X8_free
  refine J_iload_n 1 1 a1 dX8_free_0 rfl rfl ?_
  refine J_iconst 1 dX8_free_1 (by decide) ?_
  refine J_icmp_lt 11 dX8_free_2 (by decide) ?_ ?_
  · refine J_iconst (-1) dX8_free_11 (by decide) ?_
    exact J_iretI dX8_free_12 rfl rfl
  · refine J_iload_n 1 1 a1 dX8_free_5 rfl rfl ?_
    refine J_bipush 120 dX8_free_6 (by decide) ?_
    refine J_icmp_le 13 dX8_free_8 (by decide) ?_ ?_
    · refine J_aload_n 0 0 0 dX8_free_13 rfl rfl ?_
      refine J_getR 0 8 2 18 dX8_free_14 fl_8_23 rfl rfl (Nat.lt_of_lt_of_le (Nat.le_of_ble_eq_true rfl) hn) rfl ?_
      refine J_aload_n 0 0 0 dX8_free_17 rfl rfl ?_
      refine J_getR 0 8 1 4 dX8_free_18 fl_8_19 rfl rfl (Nat.lt_of_lt_of_le (Nat.le_of_ble_eq_true rfl) hn) rfl ?_
      refine J_callVV 18 7 1 [.ref 4] dX8_free_21 mv_X7_copyWithoutOrders mv_X7_copyWithoutOrdersv lk_8_267 (ct_X7_copyWithoutOrders F hn P D T m 18 (by simp [isSt]) 4 (by simp [isSt])) rfl rfl (by decide) rfl (Nat.lt_of_lt_of_le (Nat.le_of_ble_eq_true rfl) hn) ⟨by decide, by decide⟩ (Nat.le_of_ble_eq_true rfl) (fun m2 => ?_)
      refine J_aload_n 0 0 0 dX8_free_24 rfl rfl ?_
      refine J_getR 0 8 2 18 dX8_free_25 fl_8_23 rfl rfl (Nat.lt_of_lt_of_le (Nat.le_of_ble_eq_true rfl) hn) rfl ?_
      refine J_aload_n 0 0 0 dX8_free_28 rfl rfl ?_
      refine J_getR 0 8 9 P dX8_free_29 fl_8_64 rfl rfl (Nat.lt_of_lt_of_le (Nat.le_of_ble_eq_true rfl) hn) rfl ?_
      refine J_iload_n 1 1 a1 dX8_free_32 rfl rfl ?_
      refine J_callVI 18 7 2 [.ref P, .int a1] dX8_free_33 mv_X7_minutesAfloat mv_X7_minutesAfloatv lk_8_261 (ct_X7_minutesAfloat F hn P D T m2 18 (by simp [isSt]) P hP a1) rfl rfl (by decide) rfl (Nat.lt_of_lt_of_le (Nat.le_of_ble_eq_true rfl) hn) ⟨by decide, by decide⟩ (Nat.le_of_ble_eq_true rfl) (fun x3 m4 => ?_)
      exact J_iretI dX8_free_36 rfl rfl
    · refine J_iconst (-1) dX8_free_11 (by decide) ?_
      exact J_iretI dX8_free_12 rfl rfl
def f_X8_given (m : Mm) (a1 : Int32) (a2 : Int32) : Option (Int32) :=
  if a1 < 0 then (some (-1)) else (if a1 < (m 10 0) then (if a2 = 0 then ((ald m 11 12 a1).bind fun x1 => some x1) else (if a2 = 1 then ((ald m 12 12 a1).bind fun x2 => some x2) else (if a2 = 2 then ((ald m 13 12 a1).bind fun x3 => some x3) else (if a2 = 3 then ((ald m 14 12 a1).bind fun x4 => some x4) else (if a2 = 4 then ((ald m 15 12 a1).bind fun x5 => some x5) else (if a2 = 5 then ((ald m 16 12 a1).bind fun x6 => some x6) else (some (-1)))))))) else (some (-1)))
set_option maxHeartbeats 4000000 in
set_option maxRecDepth 100000 in
theorem ct_X8_given (F : Nat) {n : Nat} (hn : 113 ≤ n) (P D : Nat) (T : Option Nat) (m : Mm) (a1 : Int32) (a2 : Int32) : Ct yX8_given cX8_given 4 (some .int) 0 0 [.ref 0, .int a1, .int a2] n n m (RF P D T) (rP m (RF P D T) (f_X8_given m a1 a2)) := by
  refine Ct.ofP (own := RX8) (nm := "given") [(0, .ref 0), (1, .int a1), (2, .int a2)] (by decide) (Nat.le_of_ble_eq_true rfl) rfl rfl rfl ?_
  unfold f_X8_given
  refine J_aload_n 0 0 0 dX8_given_0 rfl rfl ?_
  refine J_getR 0 8 1 4 dX8_given_1 fl_8_19 rfl rfl (Nat.lt_of_lt_of_le (Nat.le_of_ble_eq_true rfl) hn) rfl ?_
  refine J_getR 4 7 9 10 dX8_given_4 fl_8_154 rfl rfl (Nat.lt_of_lt_of_le (Nat.le_of_ble_eq_true rfl) hn) rfl ?_
  refine J_astore_n 3 [(3, .ref 10), (0, .ref 0), (1, .int a1), (2, .int a2)] dX8_given_7 rfl (by decide) rfl ?_
  refine J_iload_n 1 2 a1 dX8_given_8 rfl rfl ?_
  refine J_if_lt 20 dX8_given_9 (by decide) ?_ ?_
  · refine J_iconst (-1) dX8_given_20 (by decide) ?_
    exact J_iretP dX8_given_21 rfl rfl
  · refine J_iload_n 1 2 a1 dX8_given_12 rfl rfl ?_
    refine J_aload_n 3 0 10 dX8_given_13 rfl rfl ?_
    refine J_getI 10 0 0 dX8_given_14 fl_8_237 rfl rfl (Nat.lt_of_lt_of_le (Nat.le_of_ble_eq_true rfl) hn) ?_
    refine J_icmp_lt 22 dX8_given_17 (by decide) ?_ ?_
    · refine J_iload_n 2 3 a2 dX8_given_22 rfl rfl ?_
      refine J_split (c1 := 0) (fun hs23_0 => ?_) (fun hs23_0 => ?_)
      · refine J_tsIn 60 hs23_0 dX8_given_23 (by decide) (by decide) rfl (by decide) ?_
        refine J_aload_n 3 0 10 dX8_given_60 rfl rfl ?_
        refine J_getR 10 0 1 11 dX8_given_61 fl_8_240 rfl rfl (Nat.lt_of_lt_of_le (Nat.le_of_ble_eq_true rfl) hn) rfl ?_
        refine J_iload_n 1 2 a1 dX8_given_64 rfl rfl ?_
        refine J_iald 11 12 dX8_given_65 rfl (Nat.lt_of_lt_of_le (Nat.le_of_ble_eq_true rfl) hn) (fun x1 => ?_)
        exact J_iretP dX8_given_66 rfl rfl
      · refine J_split (c1 := 1) (fun hs23_1 => ?_) (fun hs23_1 => ?_)
        · refine J_tsIn 67 hs23_1 dX8_given_23 (by decide) (by decide) rfl (by decide) ?_
          refine J_aload_n 3 0 10 dX8_given_67 rfl rfl ?_
          refine J_getR 10 0 2 12 dX8_given_68 fl_8_242 rfl rfl (Nat.lt_of_lt_of_le (Nat.le_of_ble_eq_true rfl) hn) rfl ?_
          refine J_iload_n 1 2 a1 dX8_given_71 rfl rfl ?_
          refine J_iald 12 12 dX8_given_72 rfl (Nat.lt_of_lt_of_le (Nat.le_of_ble_eq_true rfl) hn) (fun x2 => ?_)
          exact J_iretP dX8_given_73 rfl rfl
        · refine J_split (c1 := 2) (fun hs23_2 => ?_) (fun hs23_2 => ?_)
          · refine J_tsIn 74 hs23_2 dX8_given_23 (by decide) (by decide) rfl (by decide) ?_
            refine J_aload_n 3 0 10 dX8_given_74 rfl rfl ?_
            refine J_getR 10 0 3 13 dX8_given_75 fl_8_245 rfl rfl (Nat.lt_of_lt_of_le (Nat.le_of_ble_eq_true rfl) hn) rfl ?_
            refine J_iload_n 1 2 a1 dX8_given_78 rfl rfl ?_
            refine J_iald 13 12 dX8_given_79 rfl (Nat.lt_of_lt_of_le (Nat.le_of_ble_eq_true rfl) hn) (fun x3 => ?_)
            exact J_iretP dX8_given_80 rfl rfl
          · refine J_split (c1 := 3) (fun hs23_3 => ?_) (fun hs23_3 => ?_)
            · refine J_tsIn 81 hs23_3 dX8_given_23 (by decide) (by decide) rfl (by decide) ?_
              refine J_aload_n 3 0 10 dX8_given_81 rfl rfl ?_
              refine J_getR 10 0 4 14 dX8_given_82 fl_8_248 rfl rfl (Nat.lt_of_lt_of_le (Nat.le_of_ble_eq_true rfl) hn) rfl ?_
              refine J_iload_n 1 2 a1 dX8_given_85 rfl rfl ?_
              refine J_iald 14 12 dX8_given_86 rfl (Nat.lt_of_lt_of_le (Nat.le_of_ble_eq_true rfl) hn) (fun x4 => ?_)
              exact J_iretP dX8_given_87 rfl rfl
            · refine J_split (c1 := 4) (fun hs23_4 => ?_) (fun hs23_4 => ?_)
              · refine J_tsIn 88 hs23_4 dX8_given_23 (by decide) (by decide) rfl (by decide) ?_
                refine J_aload_n 3 0 10 dX8_given_88 rfl rfl ?_
                refine J_getR 10 0 5 15 dX8_given_89 fl_8_251 rfl rfl (Nat.lt_of_lt_of_le (Nat.le_of_ble_eq_true rfl) hn) rfl ?_
                refine J_iload_n 1 2 a1 dX8_given_92 rfl rfl ?_
                refine J_iald 15 12 dX8_given_93 rfl (Nat.lt_of_lt_of_le (Nat.le_of_ble_eq_true rfl) hn) (fun x5 => ?_)
                exact J_iretP dX8_given_94 rfl rfl
              · refine J_split (c1 := 5) (fun hs23_5 => ?_) (fun hs23_5 => ?_)
                · refine J_tsIn 95 hs23_5 dX8_given_23 (by decide) (by decide) rfl (by decide) ?_
                  refine J_aload_n 3 0 10 dX8_given_95 rfl rfl ?_
                  refine J_getR 10 0 6 16 dX8_given_96 fl_8_254 rfl rfl (Nat.lt_of_lt_of_le (Nat.le_of_ble_eq_true rfl) hn) rfl ?_
                  refine J_iload_n 1 2 a1 dX8_given_99 rfl rfl ?_
                  refine J_iald 16 12 dX8_given_100 rfl (Nat.lt_of_lt_of_le (Nat.le_of_ble_eq_true rfl) hn) (fun x6 => ?_)
                  exact J_iretP dX8_given_101 rfl rfl
                · refine J_tsOut 102 dX8_given_23 (ts_out [0, 1, 2, 3, 4, 5] (by decide) (by simp only [List.mem_cons, List.not_mem_nil, or_false, forall_eq_or_imp, forall_eq]; exact ⟨hs23_0, hs23_1, hs23_2, hs23_3, hs23_4, hs23_5⟩)) (by decide) ?_
                  refine J_iconst (-1) dX8_given_102 (by decide) ?_
                  exact J_iretP dX8_given_103 rfl rfl
    · refine J_iconst (-1) dX8_given_20 (by decide) ?_
      exact J_iretP dX8_given_21 rfl rfl
def b_X8_go_15 (F : Nat) (P : Nat) (a1 : Int32) (t1 : Int32 × Mm) : Option ((Int32 × Mm) ⊕ (Mm)) :=
  if a1 ≤ t1.1 then (some (Sum.inr t1.2)) else ((f_X7_passMinute F t1.2 4 P).bind fun m4 => some (Sum.inl (t1.1 + 1, m4)))
def f_X8_go (F : Nat) (m : Mm) (P : Nat) (a1 : Int32) : Option (Int32 × Mm) :=
  if a1 < (1 : Int32) then (some ((-1), m)) else (if a1 ≤ (120 : Int32) then ((iter F (b_X8_go_15 F P a1) ((0, m) : Int32 × Mm)).bind (fun e2 : Mm => (f_X4_forget e2).bind fun m6 => bind2 (f_X7_waterInAll F m6 4 P) fun x7 m8 => some (x7, m8))) else (some ((-1), m)))
set_option maxHeartbeats 4000000 in
set_option maxRecDepth 100000 in
theorem ct_X8_go (F : Nat) {n : Nat} (hn : 113 ≤ n) (P D : Nat) (T : Option Nat) (hP : isPl P) (m : Mm) (a1 : Int32) : Ct yX8_go cX8_go 3 (some .int) 4 91 [.ref 0, .int a1] n n m (RF P D T) (rI (RF P D T) (f_X8_go F m P a1)) := by
  refine Ct.ofI (own := RX8) (nm := "go") [(0, .ref 0), (1, .int a1)] (by decide) (Nat.le_of_ble_eq_true rfl) rfl rfl rfl ?_
  unfold f_X8_go
  refine J_iload_n 1 1 a1 dX8_go_0 rfl rfl ?_
  refine J_iconst 1 dX8_go_1 (by decide) ?_
  refine J_icmp_lt 11 dX8_go_2 (by decide) ?_ ?_
  · refine J_iconst (-1) dX8_go_11 (by decide) ?_
    exact J_iretI dX8_go_12 rfl rfl
  · refine J_iload_n 1 1 a1 dX8_go_5 rfl rfl ?_
    refine J_bipush 120 dX8_go_6 (by decide) ?_
    refine J_icmp_le 13 dX8_go_8 (by decide) ?_ ?_
    · refine J_iconst 0 dX8_go_13 (by decide) ?_
      refine J_istore_n 2 [(2, .int 0), (0, .ref 0), (1, .int a1)] dX8_go_14 rfl (by decide) rfl ?_
      refine J_lv [1, 2, 0] rfl ?_
      refine J_loop (pc := 15) (fun t1 : Int32 × Mm => [(0, .ref 0), (1, .int a1), (2, .int t1.1)]) (fun t1 => t1.2) (fun _ => 37) (fun e2 => [(0, .ref 0)]) (fun _ => []) (fun e2 => e2) ?_ (fun t1 k1 hBt1 hXt1 => ?_) F ((0, m))
      · refine fun e2 => ?_
        refine J_aload_n 0 0 0 dX8_go_37 rfl rfl ?_
        refine J_getR 0 8 5 34 dX8_go_38 fl_8_37 rfl rfl (Nat.lt_of_lt_of_le (Nat.le_of_ble_eq_true rfl) hn) rfl ?_
        refine J_callVV 34 4 0 [] dX8_go_41 mv_X4_forget mv_X4_forgetv lk_8_103 (ct_X4_forget F hn P D T e2) rfl rfl (by decide) rfl (Nat.lt_of_lt_of_le (Nat.le_of_ble_eq_true rfl) hn) ⟨by decide, by decide⟩ (Nat.le_of_ble_eq_true rfl) (fun m6 => ?_)
        refine J_aload_n 0 0 0 dX8_go_44 rfl rfl ?_
        refine J_getR 0 8 1 4 dX8_go_45 fl_8_19 rfl rfl (Nat.lt_of_lt_of_le (Nat.le_of_ble_eq_true rfl) hn) rfl ?_
        refine J_aload_n 0 0 0 dX8_go_48 rfl rfl ?_
        refine J_getR 0 8 9 P dX8_go_49 fl_8_64 rfl rfl (Nat.lt_of_lt_of_le (Nat.le_of_ble_eq_true rfl) hn) rfl ?_
        refine J_callVI 4 7 1 [.ref P] dX8_go_52 mv_X7_waterInAll mv_X7_waterInAllv lk_8_203 (ct_X7_waterInAll F hn P D T m6 4 (by simp [isSt]) P hP) rfl rfl (by decide) rfl (Nat.lt_of_lt_of_le (Nat.le_of_ble_eq_true rfl) hn) ⟨by decide, by decide⟩ (Nat.le_of_ble_eq_true rfl) (fun x7 m8 => ?_)
        exact J_iretI dX8_go_55 rfl rfl
      · unfold b_X8_go_15
        refine J_iload_n 2 2 t1.1 dX8_go_15 rfl rfl ?_
        refine J_iload_n 1 1 a1 dX8_go_16 rfl rfl ?_
        refine J_icmp_ge 37 dX8_go_17 (by decide) ?_ ?_
        · exact J_lv [0] rfl (hXt1 t1.2)
        · refine J_aload_n 0 0 0 dX8_go_20 rfl rfl ?_
          refine J_getR 0 8 1 4 dX8_go_21 fl_8_19 rfl rfl (Nat.lt_of_lt_of_le (Nat.le_of_ble_eq_true rfl) hn) rfl ?_
          refine J_aload_n 0 0 0 dX8_go_24 rfl rfl ?_
          refine J_getR 0 8 9 P dX8_go_25 fl_8_64 rfl rfl (Nat.lt_of_lt_of_le (Nat.le_of_ble_eq_true rfl) hn) rfl ?_
          refine J_callVV 4 7 1 [.ref P] dX8_go_28 mv_X7_passMinute mv_X7_passMinutev lk_8_200 (ct_X7_passMinute F hn P D T t1.2 4 (by simp [isSt]) P hP) rfl rfl (by decide) rfl (Nat.lt_of_lt_of_le (Nat.le_of_ble_eq_true rfl) hn) ⟨by decide, by decide⟩ (Nat.le_of_ble_eq_true rfl) (fun m4 => ?_)
          refine J_iinc 2 2 [(2, .int (t1.1 + 1)), (0, .ref 0), (1, .int a1)] t1.1 (t1.1 + 1) dX8_go_31 rfl rfl (by decide) rfl ?_
          refine J_goto 15 dX8_go_34 (by decide) ?_
          exact J_lv [1, 2, 0] rfl (hBt1 (t1.1 + 1, m4))
    · refine J_iconst (-1) dX8_go_11 (by decide) ?_
      exact J_iretI dX8_go_12 rfl rfl
def f_X8_isOpenAndIdle (F : Nat) (m : Mm) (a1 : Int32) : Option (Int32) :=
  (ald m 7 10 a1).bind fun x1 => if x1 = (1 : Int32) then ((f_X0_isOnDoor F m 10 a1).bind fun x2 => if x2 = 0 then (some 1) else (some 0)) else (some 0)
set_option maxHeartbeats 4000000 in
set_option maxRecDepth 100000 in
theorem ct_X8_isOpenAndIdle (F : Nat) {n : Nat} (hn : 113 ≤ n) (P D : Nat) (T : Option Nat) (m : Mm) (a1 : Int32) : Ct yX8_isOpenAndIdle cX8_isOpenAndIdle 2 (some .boolean) 1 22 [.ref 0, .int a1] n n m (RF P D T) (rP m (RF P D T) (f_X8_isOpenAndIdle F m a1)) := by
  refine Ct.ofP (own := RX8) (nm := "isOpenAndIdle") [(0, .ref 0), (1, .int a1)] (by decide) (Nat.le_of_ble_eq_true rfl) rfl rfl rfl ?_
  unfold f_X8_isOpenAndIdle
  refine J_aload_n 0 0 0 dX8_isOpenAndIdle_0 rfl rfl ?_
  refine J_getR 0 8 1 4 dX8_isOpenAndIdle_1 fl_8_19 rfl rfl (Nat.lt_of_lt_of_le (Nat.le_of_ble_eq_true rfl) hn) rfl ?_
  refine J_getR 4 7 6 7 dX8_isOpenAndIdle_4 fl_8_151 rfl rfl (Nat.lt_of_lt_of_le (Nat.le_of_ble_eq_true rfl) hn) rfl ?_
  refine J_iload_n 1 1 a1 dX8_isOpenAndIdle_7 rfl rfl ?_
  refine J_iald 7 10 dX8_isOpenAndIdle_8 rfl (Nat.lt_of_lt_of_le (Nat.le_of_ble_eq_true rfl) hn) (fun x1 => ?_)
  refine J_iconst 1 dX8_isOpenAndIdle_9 (by decide) ?_
  refine J_icmp_ne 31 dX8_isOpenAndIdle_10 (by decide) ?_ ?_
  · refine J_iconst 0 dX8_isOpenAndIdle_31 (by decide) ?_
    exact J_zretP dX8_isOpenAndIdle_32 rfl rfl rfl
  · refine J_aload_n 0 0 0 dX8_isOpenAndIdle_13 rfl rfl ?_
    refine J_getR 0 8 1 4 dX8_isOpenAndIdle_14 fl_8_19 rfl rfl (Nat.lt_of_lt_of_le (Nat.le_of_ble_eq_true rfl) hn) rfl ?_
    refine J_getR 4 7 9 10 dX8_isOpenAndIdle_17 fl_8_154 rfl rfl (Nat.lt_of_lt_of_le (Nat.le_of_ble_eq_true rfl) hn) rfl ?_
    refine J_iload_n 1 1 a1 dX8_isOpenAndIdle_20 rfl rfl ?_
    refine J_callVP 10 0 1 [.int a1] dX8_isOpenAndIdle_21 mv_X0_isOnDoor mv_X0_isOnDoorv lk_8_158 (ct_X0_isOnDoor F hn P D T m 10 (by simp [isOr]) a1) rfl rfl (by decide) rfl (Nat.lt_of_lt_of_le (Nat.le_of_ble_eq_true rfl) hn) ⟨by decide, by decide⟩ (Nat.le_of_ble_eq_true rfl) (fun x2 => ?_)
    refine J_if_ne 31 dX8_isOpenAndIdle_24 (by decide) ?_ ?_
    · refine J_iconst 0 dX8_isOpenAndIdle_31 (by decide) ?_
      exact J_zretP dX8_isOpenAndIdle_32 rfl rfl rfl
    · refine J_iconst 1 dX8_isOpenAndIdle_27 (by decide) ?_
      refine J_goto 32 dX8_isOpenAndIdle_28 (by decide) ?_
      exact J_zretP dX8_isOpenAndIdle_32 rfl rfl rfl
def f_X8_minutesIfShut (F : Nat) (m : Mm) (P : Nat) (a1 : Int32) (a2 : Int32) (a3 : Int32) : Option (Int32 × Mm) :=
  (f_X7_copyWithoutOrders m 18 4).bind fun m2 => bind2 (f_X0_append m2 24 ((m2 4 0) + a2) 0 a1 0) fun x3 m4 => bind2 (f_X7_minutesAfloat F m4 18 P a3) fun x5 m6 => some (x5, m6)
set_option maxHeartbeats 4000000 in
set_option maxRecDepth 100000 in
theorem ct_X8_minutesIfShut (F : Nat) {n : Nat} (hn : 113 ≤ n) (P D : Nat) (T : Option Nat) (hP : isPl P) (m : Mm) (a1 : Int32) (a2 : Int32) (a3 : Int32) : Ct yX8_minutesIfShut cX8_minutesIfShut 4 (some .int) 5 115 [.ref 0, .int a1, .int a2, .int a3] n n m (RF P D T) (rI (RF P D T) (f_X8_minutesIfShut F m P a1 a2 a3)) := by
  refine Ct.ofI (own := RX8) (nm := "minutesIfShut") [(0, .ref 0), (1, .int a1), (2, .int a2), (3, .int a3)] (by decide) (Nat.le_of_ble_eq_true rfl) rfl rfl rfl ?_
  unfold f_X8_minutesIfShut
  refine J_aload_n 0 0 0 dX8_minutesIfShut_0 rfl rfl ?_
  refine J_getR 0 8 2 18 dX8_minutesIfShut_1 fl_8_23 rfl rfl (Nat.lt_of_lt_of_le (Nat.le_of_ble_eq_true rfl) hn) rfl ?_
  refine J_aload_n 0 0 0 dX8_minutesIfShut_4 rfl rfl ?_
  refine J_getR 0 8 1 4 dX8_minutesIfShut_5 fl_8_19 rfl rfl (Nat.lt_of_lt_of_le (Nat.le_of_ble_eq_true rfl) hn) rfl ?_
  refine J_callVV 18 7 1 [.ref 4] dX8_minutesIfShut_8 mv_X7_copyWithoutOrders mv_X7_copyWithoutOrdersv lk_8_267 (ct_X7_copyWithoutOrders F hn P D T m 18 (by simp [isSt]) 4 (by simp [isSt])) rfl rfl (by decide) rfl (Nat.lt_of_lt_of_le (Nat.le_of_ble_eq_true rfl) hn) ⟨by decide, by decide⟩ (Nat.le_of_ble_eq_true rfl) (fun m2 => ?_)
  refine J_aload_n 0 0 0 dX8_minutesIfShut_11 rfl rfl ?_
  refine J_getR 0 8 2 18 dX8_minutesIfShut_12 fl_8_23 rfl rfl (Nat.lt_of_lt_of_le (Nat.le_of_ble_eq_true rfl) hn) rfl ?_
  refine J_getR 18 7 9 24 dX8_minutesIfShut_15 fl_8_154 rfl rfl (Nat.lt_of_lt_of_le (Nat.le_of_ble_eq_true rfl) hn) rfl ?_
  refine J_aload_n 0 0 0 dX8_minutesIfShut_18 rfl rfl ?_
  refine J_getR 0 8 1 4 dX8_minutesIfShut_19 fl_8_19 rfl rfl (Nat.lt_of_lt_of_le (Nat.le_of_ble_eq_true rfl) hn) rfl ?_
  refine J_getI 4 7 0 dX8_minutesIfShut_22 fl_8_211 rfl rfl (Nat.lt_of_lt_of_le (Nat.le_of_ble_eq_true rfl) hn) ?_
  refine J_iload_n 2 2 a2 dX8_minutesIfShut_25 rfl rfl ?_
  refine J_iadd dX8_minutesIfShut_26 ?_
  refine J_iconst 0 dX8_minutesIfShut_27 (by decide) ?_
  refine J_iload_n 1 1 a1 dX8_minutesIfShut_28 rfl rfl ?_
  refine J_iconst 0 dX8_minutesIfShut_29 (by decide) ?_
  refine J_callVI 24 0 4 [.int ((m2 4 0) + a2), .int 0, .int a1, .int 0] dX8_minutesIfShut_30 mv_X0_append mv_X0_appendv lk_8_368 (ct_X0_append F hn P D T m2 24 (by simp [isOr]) ((m2 4 0) + a2) 0 a1 0) rfl rfl (by decide) rfl (Nat.lt_of_lt_of_le (Nat.le_of_ble_eq_true rfl) hn) ⟨by decide, by decide⟩ (Nat.le_of_ble_eq_true rfl) (fun x3 m4 => ?_)
  refine J_pop dX8_minutesIfShut_33 rfl ?_
  refine J_aload_n 0 0 0 dX8_minutesIfShut_34 rfl rfl ?_
  refine J_getR 0 8 2 18 dX8_minutesIfShut_35 fl_8_23 rfl rfl (Nat.lt_of_lt_of_le (Nat.le_of_ble_eq_true rfl) hn) rfl ?_
  refine J_aload_n 0 0 0 dX8_minutesIfShut_38 rfl rfl ?_
  refine J_getR 0 8 9 P dX8_minutesIfShut_39 fl_8_64 rfl rfl (Nat.lt_of_lt_of_le (Nat.le_of_ble_eq_true rfl) hn) rfl ?_
  refine J_iload_n 3 3 a3 dX8_minutesIfShut_42 rfl rfl ?_
  refine J_callVI 18 7 2 [.ref P, .int a3] dX8_minutesIfShut_43 mv_X7_minutesAfloat mv_X7_minutesAfloatv lk_8_261 (ct_X7_minutesAfloat F hn P D T m4 18 (by simp [isSt]) P hP a3) rfl rfl (by decide) rfl (Nat.lt_of_lt_of_le (Nat.le_of_ble_eq_true rfl) hn) ⟨by decide, by decide⟩ (Nat.le_of_ble_eq_true rfl) (fun x5 m6 => ?_)
  exact J_iretI dX8_minutesIfShut_46 rfl rfl
def b_X8_helps_42 (F : Nat) (P : Nat) (a1 : Int32) (x3 : Int32) (t5 : Int32 × Int32 × Mm) : Option ((Int32 × Int32 × Mm) ⊕ (Int32 × Mm)) :=
  if (t5.2.2 P 1) ≤ t5.2.1 then (some (Sum.inr ((t5.1, t5.2.2)))) else ((f_X8_isOpenAndIdle F t5.2.2 t5.2.1).bind fun x7 => (if x7 = 0 then (some (t5.1, t5.2.2)) else (bind2 (f_X8_minutesIfShut F t5.2.2 P t5.2.1 0 a1) fun x10 m11 => (f_X8_isLater x10 x3).bind fun x12 => if x12 = 0 then (some (t5.1, m11)) else (letv (t5.1 ||| ((1 : Int32) <<< (t5.2.1 &&& 31))) fun x14 => some (x14, m11))) : Option (Int32 × Mm)).bind fun y9 => some (Sum.inl (y9.1, t5.2.1 + 1, y9.2)))
def f_X8_helps (F : Nat) (m : Mm) (P : Nat) (a1 : Int32) : Option (Int32 × Mm) :=
  if a1 < (1 : Int32) then (some ((-1), m)) else (if a1 ≤ (60 : Int32) then ((f_X7_copyWithoutOrders m 18 4).bind fun m2 => bind2 (f_X7_minutesAfloat F m2 18 P a1) fun x3 m4 => (iter F (b_X8_helps_42 F P a1 x3) ((0, 0, m4) : Int32 × Int32 × Mm)).bind (fun e6 : Int32 × Mm => some (e6.1, e6.2))) else (some ((-1), m)))
set_option maxHeartbeats 4000000 in
set_option maxRecDepth 100000 in
theorem ct_X8_helps (F : Nat) {n : Nat} (hn : 113 ≤ n) (P D : Nat) (T : Option Nat) (hP : isPl P) (m : Mm) (a1 : Int32) : Ct yX8_helps cX8_helps 5 (some .int) 6 138 [.ref 0, .int a1] n n m (RF P D T) (rI (RF P D T) (f_X8_helps F m P a1)) := by
  refine Ct.ofI (own := RX8) (nm := "helps") [(0, .ref 0), (1, .int a1)] (by decide) (Nat.le_of_ble_eq_true rfl) rfl rfl rfl ?_
  unfold f_X8_helps
  refine J_iload_n 1 1 a1 dX8_helps_0 rfl rfl ?_
  refine J_iconst 1 dX8_helps_1 (by decide) ?_
  refine J_icmp_lt 11 dX8_helps_2 (by decide) ?_ ?_
  · refine J_iconst (-1) dX8_helps_11 (by decide) ?_
    exact J_iretI dX8_helps_12 rfl rfl
  · refine J_iload_n 1 1 a1 dX8_helps_5 rfl rfl ?_
    refine J_bipush 60 dX8_helps_6 (by decide) ?_
    refine J_icmp_le 13 dX8_helps_8 (by decide) ?_ ?_
    · refine J_aload_n 0 0 0 dX8_helps_13 rfl rfl ?_
      refine J_getR 0 8 2 18 dX8_helps_14 fl_8_23 rfl rfl (Nat.lt_of_lt_of_le (Nat.le_of_ble_eq_true rfl) hn) rfl ?_
      refine J_aload_n 0 0 0 dX8_helps_17 rfl rfl ?_
      refine J_getR 0 8 1 4 dX8_helps_18 fl_8_19 rfl rfl (Nat.lt_of_lt_of_le (Nat.le_of_ble_eq_true rfl) hn) rfl ?_
      refine J_callVV 18 7 1 [.ref 4] dX8_helps_21 mv_X7_copyWithoutOrders mv_X7_copyWithoutOrdersv lk_8_267 (ct_X7_copyWithoutOrders F hn P D T m 18 (by simp [isSt]) 4 (by simp [isSt])) rfl rfl (by decide) rfl (Nat.lt_of_lt_of_le (Nat.le_of_ble_eq_true rfl) hn) ⟨by decide, by decide⟩ (Nat.le_of_ble_eq_true rfl) (fun m2 => ?_)
      refine J_aload_n 0 0 0 dX8_helps_24 rfl rfl ?_
      refine J_getR 0 8 2 18 dX8_helps_25 fl_8_23 rfl rfl (Nat.lt_of_lt_of_le (Nat.le_of_ble_eq_true rfl) hn) rfl ?_
      refine J_aload_n 0 0 0 dX8_helps_28 rfl rfl ?_
      refine J_getR 0 8 9 P dX8_helps_29 fl_8_64 rfl rfl (Nat.lt_of_lt_of_le (Nat.le_of_ble_eq_true rfl) hn) rfl ?_
      refine J_iload_n 1 1 a1 dX8_helps_32 rfl rfl ?_
      refine J_callVI 18 7 2 [.ref P, .int a1] dX8_helps_33 mv_X7_minutesAfloat mv_X7_minutesAfloatv lk_8_261 (ct_X7_minutesAfloat F hn P D T m2 18 (by simp [isSt]) P hP a1) rfl rfl (by decide) rfl (Nat.lt_of_lt_of_le (Nat.le_of_ble_eq_true rfl) hn) ⟨by decide, by decide⟩ (Nat.le_of_ble_eq_true rfl) (fun x3 m4 => ?_)
      refine J_istore_n 2 [(2, .int x3), (0, .ref 0), (1, .int a1)] dX8_helps_36 rfl (by decide) rfl ?_
      refine J_iconst 0 dX8_helps_37 (by decide) ?_
      refine J_istore_n 3 [(3, .int 0), (2, .int x3), (0, .ref 0), (1, .int a1)] dX8_helps_38 rfl (by decide) rfl ?_
      refine J_iconst 0 dX8_helps_39 (by decide) ?_
      refine J_istore 4 [(4, .int 0), (3, .int 0), (2, .int x3), (0, .ref 0), (1, .int a1)] dX8_helps_40 (by decide) rfl ?_
      refine J_lv [3, 4, 2, 1, 0] rfl ?_
      refine J_loop (pc := 42) (fun t5 : Int32 × Int32 × Mm => [(0, .ref 0), (1, .int a1), (2, .int x3), (3, .int t5.1), (4, .int t5.2.1)]) (fun t5 => t5.2.2) (fun _ => 91) (fun e6 => [(3, .int e6.1)]) (fun _ => []) (fun e6 => e6.2) ?_ (fun t5 k1 hBt5 hXt5 => ?_) F ((0, 0, m4))
      · refine fun e6 => ?_
        refine J_iload_n 3 0 e6.1 dX8_helps_91 rfl rfl ?_
        exact J_iretI dX8_helps_92 rfl rfl
      · unfold b_X8_helps_42
        refine J_iload 4 4 t5.2.1 dX8_helps_42 rfl ?_
        refine J_aload_n 0 0 0 dX8_helps_44 rfl rfl ?_
        refine J_getR 0 8 9 P dX8_helps_45 fl_8_64 rfl rfl (Nat.lt_of_lt_of_le (Nat.le_of_ble_eq_true rfl) hn) rfl ?_
        refine J_getI P 1 1 dX8_helps_48 fl_8_290 (layc_Pl_0 hP) rfl (lt_Pl_0 hP hn) ?_
        refine J_icmp_ge 91 dX8_helps_51 (by decide) ?_ ?_
        · exact J_lv [3] rfl (hXt5 ((t5.1, t5.2.2)))
        · refine J_aload_n 0 0 0 dX8_helps_54 rfl rfl ?_
          refine J_iload 4 4 t5.2.1 dX8_helps_55 rfl ?_
          refine J_callVP 0 8 1 [.int t5.2.1] dX8_helps_57 mv_X8_isOpenAndIdle mv_X8_isOpenAndIdlev lk_8_283 (ct_X8_isOpenAndIdle F hn P D T t5.2.2 t5.2.1) rfl rfl (by decide) rfl (Nat.lt_of_lt_of_le (Nat.le_of_ble_eq_true rfl) hn) ⟨by decide, by decide⟩ (Nat.le_of_ble_eq_true rfl) (fun x7 => ?_)
          refine J_seqJ 85 (fun y9 : Int32 × Mm => [(0, .ref 0), (1, .int a1), (2, .int x3), (3, .int y9.1), (4, .int t5.2.1)]) (fun y9 => []) (fun y9 => y9.2) (fun y9 => ?_) (fun k1 hEy9 => ?_)
          · refine J_iinc 4 4 [(4, .int (t5.2.1 + 1)), (0, .ref 0), (1, .int a1), (2, .int x3), (3, .int y9.1)] t5.2.1 (t5.2.1 + 1) dX8_helps_85 rfl rfl (by decide) rfl ?_
            refine J_goto 42 dX8_helps_88 (by decide) ?_
            exact J_lv [1, 2, 3, 4, 0] rfl (hBt5 (y9.1, t5.2.1 + 1, y9.2))
          · refine J_if_eq 85 dX8_helps_60 (by decide) ?_ ?_
            · exact J_lv [0, 1, 2, 3, 4] rfl (hEy9 (t5.1, t5.2.2))
            · refine J_aload_n 0 0 0 dX8_helps_63 rfl rfl ?_
              refine J_iload 4 4 t5.2.1 dX8_helps_64 rfl ?_
              refine J_iconst 0 dX8_helps_66 (by decide) ?_
              refine J_iload_n 1 1 a1 dX8_helps_67 rfl rfl ?_
              refine J_callVI 0 8 3 [.int t5.2.1, .int 0, .int a1] dX8_helps_68 mv_X8_minutesIfShut mv_X8_minutesIfShutv lk_8_286 (ct_X8_minutesIfShut F hn P D T hP t5.2.2 t5.2.1 0 a1) rfl rfl (by decide) rfl (Nat.lt_of_lt_of_le (Nat.le_of_ble_eq_true rfl) hn) ⟨by decide, by decide⟩ (Nat.le_of_ble_eq_true rfl) (fun x10 m11 => ?_)
              refine J_iload_n 2 2 x3 dX8_helps_71 rfl rfl ?_
              refine J_callSP 2 [.int x10, .int x3] dX8_helps_72 mv_X8_isLater mv_X8_isLaters lk_8_293 (ct_X8_isLater F hn P D T m11 x10 x3) rfl ⟨by decide, by decide⟩ (Nat.le_of_ble_eq_true rfl) (fun x12 => ?_)
              refine J_if_eq 85 dX8_helps_75 (by decide) ?_ ?_
              · exact J_lv [0, 1, 2, 3, 4] rfl (hEy9 (t5.1, m11))
              · refine J_iload_n 3 3 t5.1 dX8_helps_78 rfl rfl ?_
                refine J_iconst 1 dX8_helps_79 (by decide) ?_
                refine J_iload 4 4 t5.2.1 dX8_helps_80 rfl ?_
                refine J_ishl dX8_helps_82 ?_
                refine J_ior dX8_helps_83 ?_
                refine J_let (fun x14 => ?_)
                refine J_istore_n 3 [(3, .int x14), (0, .ref 0), (1, .int a1), (2, .int x3), (4, .int t5.2.1)] dX8_helps_84 rfl (by decide) rfl ?_
                exact J_lv [1, 2, 3, 0, 4] rfl (hEy9 (x14, m11))
    · refine J_iconst (-1) dX8_helps_11 (by decide) ?_
      exact J_iretI dX8_helps_12 rfl rfl
def f_X8_hold (m : Mm) (P : Nat) (a1 : Int32) (a2 : Int32) : Option (Int32) :=
  (f_X8_isHold m P a1).bind fun x1 => if x1 = 0 then (some (-1)) else (if a2 = 0 then ((ald m (P + 1) 8 a1).bind fun x3 => some x3) else (if a2 = 1 then ((ald m (P + 2) 8 a1).bind fun x4 => some x4) else (if a2 = 2 then ((ald m (P + 3) 8 a1).bind fun x5 => some x5) else (if a2 = 3 then ((ald m 5 8 a1).bind fun x6 => some x6) else (if a2 = 4 then ((ald m (P + 1) 8 a1).bind fun x7 => (ald m 5 8 a1).bind fun x8 => (f_X8_heightIn x7 x8).bind fun x9 => some x9) else (if a2 = 5 then ((ald m 6 8 a1).bind fun x11 => some x11) else (some (-1))))))))
set_option maxHeartbeats 4000000 in
set_option maxRecDepth 100000 in
theorem ct_X8_hold (F : Nat) {n : Nat} (hn : 113 ≤ n) (P D : Nat) (T : Option Nat) (hP : isPl P) (m : Mm) (a1 : Int32) (a2 : Int32) : Ct yX8_hold cX8_hold 3 (some .int) 1 21 [.ref 0, .int a1, .int a2] n n m (RF P D T) (rP m (RF P D T) (f_X8_hold m P a1 a2)) := by
  refine Ct.ofP (own := RX8) (nm := "hold") [(0, .ref 0), (1, .int a1), (2, .int a2)] (by decide) (Nat.le_of_ble_eq_true rfl) rfl rfl rfl ?_
  unfold f_X8_hold
  refine J_aload_n 0 0 0 dX8_hold_0 rfl rfl ?_
  refine J_iload_n 1 1 a1 dX8_hold_1 rfl rfl ?_
  refine J_callVP 0 8 1 [.int a1] dX8_hold_2 mv_X8_isHold mv_X8_isHoldv lk_8_109 (ct_X8_isHold F hn P D T hP m a1) rfl rfl (by decide) rfl (Nat.lt_of_lt_of_le (Nat.le_of_ble_eq_true rfl) hn) ⟨by decide, by decide⟩ (Nat.le_of_ble_eq_true rfl) (fun x1 => ?_)
  refine J_if_ne 10 dX8_hold_5 (by decide) ?_ ?_
  · refine J_iload_n 2 2 a2 dX8_hold_10 rfl rfl ?_
    refine J_split (c1 := 0) (fun hs11_0 => ?_) (fun hs11_0 => ?_)
    · refine J_tsIn 48 hs11_0 dX8_hold_11 (by decide) (by decide) rfl (by decide) ?_
      refine J_aload_n 0 0 0 dX8_hold_48 rfl rfl ?_
      refine J_getR 0 8 9 P dX8_hold_49 fl_8_64 rfl rfl (Nat.lt_of_lt_of_le (Nat.le_of_ble_eq_true rfl) hn) rfl ?_
      refine J_getR P 1 4 (P + 1) dX8_hold_52 fl_8_113 (layc_Pl_0 hP) rfl (lt_Pl_0 hP hn) (rf_Pl_0_4 hP) ?_
      refine J_iload_n 1 1 a1 dX8_hold_55 rfl rfl ?_
      refine J_iald (P + 1) 8 dX8_hold_56 (lay_Pl_1 hP) (lt_Pl_1 hP hn) (fun x3 => ?_)
      exact J_iretP dX8_hold_57 rfl rfl
    · refine J_split (c1 := 1) (fun hs11_1 => ?_) (fun hs11_1 => ?_)
      · refine J_tsIn 58 hs11_1 dX8_hold_11 (by decide) (by decide) rfl (by decide) ?_
        refine J_aload_n 0 0 0 dX8_hold_58 rfl rfl ?_
        refine J_getR 0 8 9 P dX8_hold_59 fl_8_64 rfl rfl (Nat.lt_of_lt_of_le (Nat.le_of_ble_eq_true rfl) hn) rfl ?_
        refine J_getR P 1 5 (P + 2) dX8_hold_62 fl_8_117 (layc_Pl_0 hP) rfl (lt_Pl_0 hP hn) (rf_Pl_0_5 hP) ?_
        refine J_iload_n 1 1 a1 dX8_hold_65 rfl rfl ?_
        refine J_iald (P + 2) 8 dX8_hold_66 (lay_Pl_2 hP) (lt_Pl_2 hP hn) (fun x4 => ?_)
        exact J_iretP dX8_hold_67 rfl rfl
      · refine J_split (c1 := 2) (fun hs11_2 => ?_) (fun hs11_2 => ?_)
        · refine J_tsIn 68 hs11_2 dX8_hold_11 (by decide) (by decide) rfl (by decide) ?_
          refine J_aload_n 0 0 0 dX8_hold_68 rfl rfl ?_
          refine J_getR 0 8 9 P dX8_hold_69 fl_8_64 rfl rfl (Nat.lt_of_lt_of_le (Nat.le_of_ble_eq_true rfl) hn) rfl ?_
          refine J_getR P 1 6 (P + 3) dX8_hold_72 fl_8_120 (layc_Pl_0 hP) rfl (lt_Pl_0 hP hn) (rf_Pl_0_6 hP) ?_
          refine J_iload_n 1 1 a1 dX8_hold_75 rfl rfl ?_
          refine J_iald (P + 3) 8 dX8_hold_76 (lay_Pl_3 hP) (lt_Pl_3 hP hn) (fun x5 => ?_)
          exact J_iretP dX8_hold_77 rfl rfl
        · refine J_split (c1 := 3) (fun hs11_3 => ?_) (fun hs11_3 => ?_)
          · refine J_tsIn 78 hs11_3 dX8_hold_11 (by decide) (by decide) rfl (by decide) ?_
            refine J_aload_n 0 0 0 dX8_hold_78 rfl rfl ?_
            refine J_getR 0 8 1 4 dX8_hold_79 fl_8_19 rfl rfl (Nat.lt_of_lt_of_le (Nat.le_of_ble_eq_true rfl) hn) rfl ?_
            refine J_getR 4 7 4 5 dX8_hold_82 fl_8_123 rfl rfl (Nat.lt_of_lt_of_le (Nat.le_of_ble_eq_true rfl) hn) rfl ?_
            refine J_iload_n 1 1 a1 dX8_hold_85 rfl rfl ?_
            refine J_iald 5 8 dX8_hold_86 rfl (Nat.lt_of_lt_of_le (Nat.le_of_ble_eq_true rfl) hn) (fun x6 => ?_)
            exact J_iretP dX8_hold_87 rfl rfl
          · refine J_split (c1 := 4) (fun hs11_4 => ?_) (fun hs11_4 => ?_)
            · refine J_tsIn 88 hs11_4 dX8_hold_11 (by decide) (by decide) rfl (by decide) ?_
              refine J_aload_n 0 0 0 dX8_hold_88 rfl rfl ?_
              refine J_getR 0 8 9 P dX8_hold_89 fl_8_64 rfl rfl (Nat.lt_of_lt_of_le (Nat.le_of_ble_eq_true rfl) hn) rfl ?_
              refine J_getR P 1 4 (P + 1) dX8_hold_92 fl_8_113 (layc_Pl_0 hP) rfl (lt_Pl_0 hP hn) (rf_Pl_0_4 hP) ?_
              refine J_iload_n 1 1 a1 dX8_hold_95 rfl rfl ?_
              refine J_iald (P + 1) 8 dX8_hold_96 (lay_Pl_1 hP) (lt_Pl_1 hP hn) (fun x7 => ?_)
              refine J_aload_n 0 0 0 dX8_hold_97 rfl rfl ?_
              refine J_getR 0 8 1 4 dX8_hold_98 fl_8_19 rfl rfl (Nat.lt_of_lt_of_le (Nat.le_of_ble_eq_true rfl) hn) rfl ?_
              refine J_getR 4 7 4 5 dX8_hold_101 fl_8_123 rfl rfl (Nat.lt_of_lt_of_le (Nat.le_of_ble_eq_true rfl) hn) rfl ?_
              refine J_iload_n 1 1 a1 dX8_hold_104 rfl rfl ?_
              refine J_iald 5 8 dX8_hold_105 rfl (Nat.lt_of_lt_of_le (Nat.le_of_ble_eq_true rfl) hn) (fun x8 => ?_)
              refine J_callSP 2 [.int x7, .int x8] dX8_hold_106 mv_X8_heightIn mv_X8_heightIns lk_8_126 (ct_X8_heightIn F hn P D T m x7 x8) rfl ⟨by decide, by decide⟩ (Nat.le_of_ble_eq_true rfl) (fun x9 => ?_)
              exact J_iretP dX8_hold_109 rfl rfl
            · refine J_split (c1 := 5) (fun hs11_5 => ?_) (fun hs11_5 => ?_)
              · refine J_tsIn 110 hs11_5 dX8_hold_11 (by decide) (by decide) rfl (by decide) ?_
                refine J_aload_n 0 0 0 dX8_hold_110 rfl rfl ?_
                refine J_getR 0 8 1 4 dX8_hold_111 fl_8_19 rfl rfl (Nat.lt_of_lt_of_le (Nat.le_of_ble_eq_true rfl) hn) rfl ?_
                refine J_getR 4 7 5 6 dX8_hold_114 fl_8_130 rfl rfl (Nat.lt_of_lt_of_le (Nat.le_of_ble_eq_true rfl) hn) rfl ?_
                refine J_iload_n 1 1 a1 dX8_hold_117 rfl rfl ?_
                refine J_iald 6 8 dX8_hold_118 rfl (Nat.lt_of_lt_of_le (Nat.le_of_ble_eq_true rfl) hn) (fun x11 => ?_)
                exact J_iretP dX8_hold_119 rfl rfl
              · refine J_tsOut 120 dX8_hold_11 (ts_out [0, 1, 2, 3, 4, 5] (by decide) (by simp only [List.mem_cons, List.not_mem_nil, or_false, forall_eq_or_imp, forall_eq]; exact ⟨hs11_0, hs11_1, hs11_2, hs11_3, hs11_4, hs11_5⟩)) (by decide) ?_
                refine J_iconst (-1) dX8_hold_120 (by decide) ?_
                exact J_iretP dX8_hold_121 rfl rfl
  · refine J_iconst (-1) dX8_hold_8 (by decide) ?_
    exact J_iretP dX8_hold_9 rfl rfl
def f_X8_isHole (m : Mm) (P : Nat) (a1 : Int32) : Option (Int32) :=
  if a1 < 0 then (some 0) else (if (m P 2) ≤ a1 then (some 0) else (some 1))
set_option maxHeartbeats 4000000 in
set_option maxRecDepth 100000 in
theorem ct_X8_isHole (F : Nat) {n : Nat} (hn : 113 ≤ n) (P D : Nat) (T : Option Nat) (hP : isPl P) (m : Mm) (a1 : Int32) : Ct yX8_isHole cX8_isHole 2 (some .boolean) 0 0 [.ref 0, .int a1] n n m (RF P D T) (rP m (RF P D T) (f_X8_isHole m P a1)) := by
  refine Ct.ofP (own := RX8) (nm := "isHole") [(0, .ref 0), (1, .int a1)] (by decide) (Nat.le_of_ble_eq_true rfl) rfl rfl rfl ?_
  unfold f_X8_isHole
  refine J_iload_n 1 1 a1 dX8_isHole_0 rfl rfl ?_
  refine J_if_lt 19 dX8_isHole_1 (by decide) ?_ ?_
  · refine J_iconst 0 dX8_isHole_19 (by decide) ?_
    exact J_zretP dX8_isHole_20 rfl rfl rfl
  · refine J_iload_n 1 1 a1 dX8_isHole_4 rfl rfl ?_
    refine J_aload_n 0 0 0 dX8_isHole_5 rfl rfl ?_
    refine J_getR 0 8 9 P dX8_isHole_6 fl_8_64 rfl rfl (Nat.lt_of_lt_of_le (Nat.le_of_ble_eq_true rfl) hn) rfl ?_
    refine J_getI P 1 2 dX8_isHole_9 fl_8_353 (layc_Pl_0 hP) rfl (lt_Pl_0 hP hn) ?_
    refine J_icmp_ge 19 dX8_isHole_12 (by decide) ?_ ?_
    · refine J_iconst 0 dX8_isHole_19 (by decide) ?_
      exact J_zretP dX8_isHole_20 rfl rfl rfl
    · refine J_iconst 1 dX8_isHole_15 (by decide) ?_
      refine J_goto 20 dX8_isHole_16 (by decide) ?_
      exact J_zretP dX8_isHole_20 rfl rfl rfl
def f_X8_hole (m : Mm) (P : Nat) (a1 : Int32) (a2 : Int32) : Option (Int32) :=
  (f_X8_isHole m P a1).bind fun x1 => if x1 = 0 then (some (-1)) else (if a2 = 0 then ((ald m (P + 11) 4 a1).bind fun x3 => some x3) else (if a2 = 1 then ((ald m (P + 12) 4 a1).bind fun x4 => some x4) else (if a2 = 2 then ((ald m (P + 13) 4 a1).bind fun x5 => some x5) else (if a2 = 3 then ((ald m 8 4 a1).bind fun x6 => some x6) else (if a2 = 4 then ((f_X7_tonsThrough m 4 P a1).bind fun x7 => some x7) else (some (-1)))))))
set_option maxHeartbeats 4000000 in
set_option maxRecDepth 100000 in
theorem ct_X8_hole (F : Nat) {n : Nat} (hn : 113 ≤ n) (P D : Nat) (T : Option Nat) (hP : isPl P) (m : Mm) (a1 : Int32) (a2 : Int32) : Ct yX8_hole cX8_hole 3 (some .int) 2 47 [.ref 0, .int a1, .int a2] n n m (RF P D T) (rP m (RF P D T) (f_X8_hole m P a1 a2)) := by
  refine Ct.ofP (own := RX8) (nm := "hole") [(0, .ref 0), (1, .int a1), (2, .int a2)] (by decide) (Nat.le_of_ble_eq_true rfl) rfl rfl rfl ?_
  unfold f_X8_hole
  refine J_aload_n 0 0 0 dX8_hole_0 rfl rfl ?_
  refine J_iload_n 1 1 a1 dX8_hole_1 rfl rfl ?_
  refine J_callVP 0 8 1 [.int a1] dX8_hole_2 mv_X8_isHole mv_X8_isHolev lk_8_163 (ct_X8_isHole F hn P D T hP m a1) rfl rfl (by decide) rfl (Nat.lt_of_lt_of_le (Nat.le_of_ble_eq_true rfl) hn) ⟨by decide, by decide⟩ (Nat.le_of_ble_eq_true rfl) (fun x1 => ?_)
  refine J_if_ne 10 dX8_hole_5 (by decide) ?_ ?_
  · refine J_iload_n 2 2 a2 dX8_hole_10 rfl rfl ?_
    refine J_split (c1 := 0) (fun hs11_0 => ?_) (fun hs11_0 => ?_)
    · refine J_tsIn 44 hs11_0 dX8_hole_11 (by decide) (by decide) rfl (by decide) ?_
      refine J_aload_n 0 0 0 dX8_hole_44 rfl rfl ?_
      refine J_getR 0 8 9 P dX8_hole_45 fl_8_64 rfl rfl (Nat.lt_of_lt_of_le (Nat.le_of_ble_eq_true rfl) hn) rfl ?_
      refine J_getR P 1 14 (P + 11) dX8_hole_48 fl_8_166 (layc_Pl_0 hP) rfl (lt_Pl_0 hP hn) (rf_Pl_0_14 hP) ?_
      refine J_iload_n 1 1 a1 dX8_hole_51 rfl rfl ?_
      refine J_iald (P + 11) 4 dX8_hole_52 (lay_Pl_11 hP) (lt_Pl_11 hP hn) (fun x3 => ?_)
      exact J_iretP dX8_hole_53 rfl rfl
    · refine J_split (c1 := 1) (fun hs11_1 => ?_) (fun hs11_1 => ?_)
      · refine J_tsIn 54 hs11_1 dX8_hole_11 (by decide) (by decide) rfl (by decide) ?_
        refine J_aload_n 0 0 0 dX8_hole_54 rfl rfl ?_
        refine J_getR 0 8 9 P dX8_hole_55 fl_8_64 rfl rfl (Nat.lt_of_lt_of_le (Nat.le_of_ble_eq_true rfl) hn) rfl ?_
        refine J_getR P 1 15 (P + 12) dX8_hole_58 fl_8_169 (layc_Pl_0 hP) rfl (lt_Pl_0 hP hn) (rf_Pl_0_15 hP) ?_
        refine J_iload_n 1 1 a1 dX8_hole_61 rfl rfl ?_
        refine J_iald (P + 12) 4 dX8_hole_62 (lay_Pl_12 hP) (lt_Pl_12 hP hn) (fun x4 => ?_)
        exact J_iretP dX8_hole_63 rfl rfl
      · refine J_split (c1 := 2) (fun hs11_2 => ?_) (fun hs11_2 => ?_)
        · refine J_tsIn 64 hs11_2 dX8_hole_11 (by decide) (by decide) rfl (by decide) ?_
          refine J_aload_n 0 0 0 dX8_hole_64 rfl rfl ?_
          refine J_getR 0 8 9 P dX8_hole_65 fl_8_64 rfl rfl (Nat.lt_of_lt_of_le (Nat.le_of_ble_eq_true rfl) hn) rfl ?_
          refine J_getR P 1 16 (P + 13) dX8_hole_68 fl_8_172 (layc_Pl_0 hP) rfl (lt_Pl_0 hP hn) (rf_Pl_0_16 hP) ?_
          refine J_iload_n 1 1 a1 dX8_hole_71 rfl rfl ?_
          refine J_iald (P + 13) 4 dX8_hole_72 (lay_Pl_13 hP) (lt_Pl_13 hP hn) (fun x5 => ?_)
          exact J_iretP dX8_hole_73 rfl rfl
        · refine J_split (c1 := 3) (fun hs11_3 => ?_) (fun hs11_3 => ?_)
          · refine J_tsIn 74 hs11_3 dX8_hole_11 (by decide) (by decide) rfl (by decide) ?_
            refine J_aload_n 0 0 0 dX8_hole_74 rfl rfl ?_
            refine J_getR 0 8 1 4 dX8_hole_75 fl_8_19 rfl rfl (Nat.lt_of_lt_of_le (Nat.le_of_ble_eq_true rfl) hn) rfl ?_
            refine J_getR 4 7 7 8 dX8_hole_78 fl_8_175 rfl rfl (Nat.lt_of_lt_of_le (Nat.le_of_ble_eq_true rfl) hn) rfl ?_
            refine J_iload_n 1 1 a1 dX8_hole_81 rfl rfl ?_
            refine J_iald 8 4 dX8_hole_82 rfl (Nat.lt_of_lt_of_le (Nat.le_of_ble_eq_true rfl) hn) (fun x6 => ?_)
            exact J_iretP dX8_hole_83 rfl rfl
          · refine J_split (c1 := 4) (fun hs11_4 => ?_) (fun hs11_4 => ?_)
            · refine J_tsIn 84 hs11_4 dX8_hole_11 (by decide) (by decide) rfl (by decide) ?_
              refine J_aload_n 0 0 0 dX8_hole_84 rfl rfl ?_
              refine J_getR 0 8 1 4 dX8_hole_85 fl_8_19 rfl rfl (Nat.lt_of_lt_of_le (Nat.le_of_ble_eq_true rfl) hn) rfl ?_
              refine J_aload_n 0 0 0 dX8_hole_88 rfl rfl ?_
              refine J_getR 0 8 9 P dX8_hole_89 fl_8_64 rfl rfl (Nat.lt_of_lt_of_le (Nat.le_of_ble_eq_true rfl) hn) rfl ?_
              refine J_iload_n 1 1 a1 dX8_hole_92 rfl rfl ?_
              refine J_callVP 4 7 2 [.ref P, .int a1] dX8_hole_93 mv_X7_tonsThrough mv_X7_tonsThroughv lk_8_178 (ct_X7_tonsThrough F hn P D T m 4 (by simp [isSt]) P hP a1) rfl rfl (by decide) rfl (Nat.lt_of_lt_of_le (Nat.le_of_ble_eq_true rfl) hn) ⟨by decide, by decide⟩ (Nat.le_of_ble_eq_true rfl) (fun x7 => ?_)
              exact J_iretP dX8_hole_96 rfl rfl
            · refine J_tsOut 97 dX8_hole_11 (ts_out [0, 1, 2, 3, 4] (by decide) (by simp only [List.mem_cons, List.not_mem_nil, or_false, forall_eq_or_imp, forall_eq]; exact ⟨hs11_0, hs11_1, hs11_2, hs11_3, hs11_4⟩)) (by decide) ?_
              refine J_iconst (-1) dX8_hole_97 (by decide) ?_
              exact J_iretP dX8_hole_98 rfl rfl
  · refine J_iconst (-1) dX8_hole_8 (by decide) ?_
    exact J_iretP dX8_hole_9 rfl rfl
def f_X8_isPump (m : Mm) (P : Nat) (a1 : Int32) : Option (Int32) :=
  if a1 < 0 then (some 0) else (if (m P 3) ≤ a1 then (some 0) else (some 1))
set_option maxHeartbeats 4000000 in
set_option maxRecDepth 100000 in
theorem ct_X8_isPump (F : Nat) {n : Nat} (hn : 113 ≤ n) (P D : Nat) (T : Option Nat) (hP : isPl P) (m : Mm) (a1 : Int32) : Ct yX8_isPump cX8_isPump 2 (some .boolean) 0 0 [.ref 0, .int a1] n n m (RF P D T) (rP m (RF P D T) (f_X8_isPump m P a1)) := by
  refine Ct.ofP (own := RX8) (nm := "isPump") [(0, .ref 0), (1, .int a1)] (by decide) (Nat.le_of_ble_eq_true rfl) rfl rfl rfl ?_
  unfold f_X8_isPump
  refine J_iload_n 1 1 a1 dX8_isPump_0 rfl rfl ?_
  refine J_if_lt 19 dX8_isPump_1 (by decide) ?_ ?_
  · refine J_iconst 0 dX8_isPump_19 (by decide) ?_
    exact J_zretP dX8_isPump_20 rfl rfl rfl
  · refine J_iload_n 1 1 a1 dX8_isPump_4 rfl rfl ?_
    refine J_aload_n 0 0 0 dX8_isPump_5 rfl rfl ?_
    refine J_getR 0 8 9 P dX8_isPump_6 fl_8_64 rfl rfl (Nat.lt_of_lt_of_le (Nat.le_of_ble_eq_true rfl) hn) rfl ?_
    refine J_getI P 1 3 dX8_isPump_9 fl_8_356 (layc_Pl_0 hP) rfl (lt_Pl_0 hP hn) ?_
    refine J_icmp_ge 19 dX8_isPump_12 (by decide) ?_ ?_
    · refine J_iconst 0 dX8_isPump_19 (by decide) ?_
      exact J_zretP dX8_isPump_20 rfl rfl rfl
    · refine J_iconst 1 dX8_isPump_15 (by decide) ?_
      refine J_goto 20 dX8_isPump_16 (by decide) ?_
      exact J_zretP dX8_isPump_20 rfl rfl rfl

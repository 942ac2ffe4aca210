theorem fl_7_102 : FL RX7 102 1 4 := ⟨by decide, by decide, tb 273 (by decide +kernel) rfl⟩
theorem fl_7_153 : FL RX7 153 0 5 := ⟨by decide, by decide, tb 98 (by decide +kernel) rfl⟩
theorem fl_7_156 : FL RX7 156 0 6 := ⟨by decide, by decide, tb 101 (by decide +kernel) rfl⟩
theorem fl_7_159 : FL RX7 159 0 2 := ⟨by decide, by decide, tb 89 (by decide +kernel) rfl⟩
theorem fl_7_162 : FL RX7 162 0 3 := ⟨by decide, by decide, tb 92 (by decide +kernel) rfl⟩
theorem fl_7_165 : FL RX7 165 0 4 := ⟨by decide, by decide, tb 95 (by decide +kernel) rfl⟩
theorem fl_7_172 : FL RX7 172 0 1 := ⟨by decide, by decide, tb 86 (by decide +kernel) rfl⟩
theorem fl_7_196 : FL RX7 196 1 2 := ⟨by decide, by decide, tb 264 (by decide +kernel) rfl⟩
theorem fl_7_203 : FL RX7 203 1 0 := ⟨by decide, by decide, tb 255 (by decide +kernel) rfl⟩
theorem fl_7_209 : FL RX7 209 1 8 := ⟨by decide, by decide, tb 290 (by decide +kernel) rfl⟩
theorem fl_7_212 : FL RX7 212 1 9 := ⟨by decide, by decide, tb 294 (by decide +kernel) rfl⟩
theorem fl_7_215 : FL RX7 215 1 11 := ⟨by decide, by decide, tb 302 (by decide +kernel) rfl⟩
theorem fl_7_218 : FL RX7 218 1 10 := ⟨by decide, by decide, tb 298 (by decide +kernel) rfl⟩
theorem fl_7_96 : FL RX7 96 1 14 := ⟨by decide, by decide, tb 310 (by decide +kernel) rfl⟩
theorem fl_7_99 : FL RX7 99 1 15 := ⟨by decide, by decide, tb 314 (by decide +kernel) rfl⟩
theorem lk_7_105 : Cond.methodLinkNest RX7 105 yX8_heightIn "WhichHold" ∈ NWl := tbN 646 (by decide +kernel) rfl
theorem lk_7_109 : Cond.methodLinkNest RX7 109 yX8_tonsIn "WhichHold" ∈ NWl := tbN 647 (by decide +kernel) rfl
theorem lk_7_126 : Cond.methodLink RX7 126 Lib.Math.max.name ∈ TBg := tb 719 (by decide +kernel) rfl
theorem lk_7_168 : Cond.methodLink RX7 168 yX7_takePlace ∈ TBg := tb 679 (by decide +kernel) rfl
theorem lk_7_174 : Cond.methodLink RX7 174 yX7_canBegin ∈ TBg := tb 687 (by decide +kernel) rfl
theorem lk_7_178 : Cond.methodLinkNest RX7 178 yX8_minutesFor "WhichHold" ∈ NWl := tbN 700 (by decide +kernel) rfl
theorem lk_7_199 : Cond.methodLink RX7 199 yX7_tonsThrough ∈ TBg := tb 707 (by decide +kernel) rfl
theorem lk_7_206 : Cond.methodLink RX7 206 Lib.Math.min.name ∈ TBg := tb 712 (by decide +kernel) rfl
theorem mv_X7_canBegin : MV yX7_canBegin cX7_canBegin 4 (some .boolean) 3 := ⟨tb 690 (by decide +kernel) rfl, tb 3 (by decide +kernel) rfl, by decide +kernel⟩
theorem mv_X7_canBeginv : Cond.instanceMethod yX7_canBegin ∈ TBg ∧ Cond.selects yX7_canBegin.cls yX7_canBegin yX7_canBegin ∈ TBg := ⟨tb 689 (by decide +kernel) rfl, tbP (k := 11) 21 (by decide +kernel) rfl⟩
theorem mv_X7_takePlace : MV yX7_takePlace cX7_takePlace 4 none 3 := ⟨tb 682 (by decide +kernel) rfl, tb 3 (by decide +kernel) rfl, by decide +kernel⟩
theorem mv_X7_takePlacev : Cond.instanceMethod yX7_takePlace ∈ TBg ∧ Cond.selects yX7_takePlace.cls yX7_takePlace yX7_takePlace ∈ TBg := ⟨tb 681 (by decide +kernel) rfl, tbP (k := 11) 19 (by decide +kernel) rfl⟩
theorem mv_X7_tonsThrough : MV yX7_tonsThrough cX7_tonsThrough 5 (some .int) 2 := ⟨tb 645 (by decide +kernel) rfl, tb 3 (by decide +kernel) rfl, by decide +kernel⟩
theorem mv_X7_tonsThroughv : Cond.instanceMethod yX7_tonsThrough ∈ TBg ∧ Cond.selects yX7_tonsThrough.cls yX7_tonsThrough yX7_tonsThrough ∈ TBg := ⟨tb 643 (by decide +kernel) rfl, tb 644 (by decide +kernel) rfl⟩
theorem mv_X8_heightIn : MV yX8_heightIn cX8_heightIn 2 (some .int) 2 := ⟨tb 621 (by decide +kernel) rfl, tb 1 (by decide +kernel) rfl, by decide +kernel⟩
theorem mv_X8_heightIns : Cond.static yX8_heightIn ∈ TBg := tb 620 (by decide +kernel) rfl
theorem mv_X8_tonsIn : MV yX8_tonsIn cX8_tonsIn 4 (some .int) 3 := ⟨tb 649 (by decide +kernel) rfl, tb 1 (by decide +kernel) rfl, by decide +kernel⟩
theorem mv_X8_tonsIns : Cond.static yX8_tonsIn ∈ TBg := tb 648 (by decide +kernel) rfl
theorem dX7_beginOrders_0 : decode cX7_beginOrders 0 = .ok (.iconst 0, 1) := by decide +kernel
theorem dX7_beginOrders_1 : decode cX7_beginOrders 1 = .ok (.istore_n 2, 1) := by decide +kernel
theorem dX7_beginOrders_2 : decode cX7_beginOrders 2 = .ok (.iload_n 2, 1) := by decide +kernel
theorem dX7_beginOrders_3 : decode cX7_beginOrders 3 = .ok (.aload_n 0, 1) := by decide +kernel
theorem dX7_beginOrders_4 : decode cX7_beginOrders 4 = .ok (.getfield 30, 3) := by decide +kernel
theorem dX7_beginOrders_7 : decode cX7_beginOrders 7 = .ok (.getfield 68, 3) := by decide +kernel
theorem dX7_beginOrders_10 : decode cX7_beginOrders 10 = .ok (.if_icmp .ge 122, 3) := by decide +kernel
theorem dX7_beginOrders_13 : decode cX7_beginOrders 13 = .ok (.aload_n 0, 1) := by decide +kernel
theorem dX7_beginOrders_14 : decode cX7_beginOrders 14 = .ok (.getfield 30, 3) := by decide +kernel
theorem dX7_beginOrders_17 : decode cX7_beginOrders 17 = .ok (.getfield 153, 3) := by decide +kernel
theorem dX7_beginOrders_20 : decode cX7_beginOrders 20 = .ok (.iload_n 2, 1) := by decide +kernel
theorem dX7_beginOrders_21 : decode cX7_beginOrders 21 = .ok (.iaload, 1) := by decide +kernel
theorem dX7_beginOrders_22 : decode cX7_beginOrders 22 = .ok (.ifCond .ne 104, 3) := by decide +kernel
theorem dX7_beginOrders_25 : decode cX7_beginOrders 25 = .ok (.aload_n 0, 1) := by decide +kernel
theorem dX7_beginOrders_26 : decode cX7_beginOrders 26 = .ok (.getfield 30, 3) := by decide +kernel
theorem dX7_beginOrders_29 : decode cX7_beginOrders 29 = .ok (.getfield 172, 3) := by decide +kernel
theorem dX7_beginOrders_32 : decode cX7_beginOrders 32 = .ok (.iload_n 2, 1) := by decide +kernel
theorem dX7_beginOrders_33 : decode cX7_beginOrders 33 = .ok (.iaload, 1) := by decide +kernel
theorem dX7_beginOrders_34 : decode cX7_beginOrders 34 = .ok (.aload_n 0, 1) := by decide +kernel
theorem dX7_beginOrders_35 : decode cX7_beginOrders 35 = .ok (.getfield 41, 3) := by decide +kernel
theorem dX7_beginOrders_38 : decode cX7_beginOrders 38 = .ok (.if_icmp .ne 88, 3) := by decide +kernel
theorem dX7_beginOrders_41 : decode cX7_beginOrders 41 = .ok (.aload_n 0, 1) := by decide +kernel
theorem dX7_beginOrders_42 : decode cX7_beginOrders 42 = .ok (.aload_n 1, 1) := by decide +kernel
theorem dX7_beginOrders_43 : decode cX7_beginOrders 43 = .ok (.aload_n 0, 1) := by decide +kernel
theorem dX7_beginOrders_44 : decode cX7_beginOrders 44 = .ok (.getfield 30, 3) := by decide +kernel
theorem dX7_beginOrders_47 : decode cX7_beginOrders 47 = .ok (.getfield 159, 3) := by decide +kernel
theorem dX7_beginOrders_50 : decode cX7_beginOrders 50 = .ok (.iload_n 2, 1) := by decide +kernel
theorem dX7_beginOrders_51 : decode cX7_beginOrders 51 = .ok (.iaload, 1) := by decide +kernel
theorem dX7_beginOrders_52 : decode cX7_beginOrders 52 = .ok (.aload_n 0, 1) := by decide +kernel
theorem dX7_beginOrders_53 : decode cX7_beginOrders 53 = .ok (.getfield 30, 3) := by decide +kernel
theorem dX7_beginOrders_56 : decode cX7_beginOrders 56 = .ok (.getfield 162, 3) := by decide +kernel
theorem dX7_beginOrders_59 : decode cX7_beginOrders 59 = .ok (.iload_n 2, 1) := by decide +kernel
theorem dX7_beginOrders_60 : decode cX7_beginOrders 60 = .ok (.iaload, 1) := by decide +kernel
theorem dX7_beginOrders_61 : decode cX7_beginOrders 61 = .ok (.invokevirtual 174, 3) := by decide +kernel
theorem dX7_beginOrders_64 : decode cX7_beginOrders 64 = .ok (.ifCond .eq 52, 3) := by decide +kernel
theorem dX7_beginOrders_67 : decode cX7_beginOrders 67 = .ok (.aload_n 0, 1) := by decide +kernel
theorem dX7_beginOrders_68 : decode cX7_beginOrders 68 = .ok (.getfield 30, 3) := by decide +kernel
theorem dX7_beginOrders_71 : decode cX7_beginOrders 71 = .ok (.getfield 153, 3) := by decide +kernel
theorem dX7_beginOrders_74 : decode cX7_beginOrders 74 = .ok (.iload_n 2, 1) := by decide +kernel
theorem dX7_beginOrders_75 : decode cX7_beginOrders 75 = .ok (.iconst 1, 1) := by decide +kernel
theorem dX7_beginOrders_76 : decode cX7_beginOrders 76 = .ok (.iastore, 1) := by decide +kernel
theorem dX7_beginOrders_77 : decode cX7_beginOrders 77 = .ok (.aload_n 0, 1) := by decide +kernel
theorem dX7_beginOrders_78 : decode cX7_beginOrders 78 = .ok (.getfield 30, 3) := by decide +kernel
theorem dX7_beginOrders_81 : decode cX7_beginOrders 81 = .ok (.getfield 156, 3) := by decide +kernel
theorem dX7_beginOrders_84 : decode cX7_beginOrders 84 = .ok (.iload_n 2, 1) := by decide +kernel
theorem dX7_beginOrders_85 : decode cX7_beginOrders 85 = .ok (.aload_n 0, 1) := by decide +kernel
theorem dX7_beginOrders_86 : decode cX7_beginOrders 86 = .ok (.getfield 41, 3) := by decide +kernel
theorem dX7_beginOrders_89 : decode cX7_beginOrders 89 = .ok (.aload_n 1, 1) := by decide +kernel
theorem dX7_beginOrders_90 : decode cX7_beginOrders 90 = .ok (.aload_n 0, 1) := by decide +kernel
theorem dX7_beginOrders_91 : decode cX7_beginOrders 91 = .ok (.getfield 30, 3) := by decide +kernel
theorem dX7_beginOrders_94 : decode cX7_beginOrders 94 = .ok (.getfield 159, 3) := by decide +kernel
theorem dX7_beginOrders_97 : decode cX7_beginOrders 97 = .ok (.iload_n 2, 1) := by decide +kernel
theorem dX7_beginOrders_98 : decode cX7_beginOrders 98 = .ok (.iaload, 1) := by decide +kernel
theorem dX7_beginOrders_99 : decode cX7_beginOrders 99 = .ok (.aload_n 0, 1) := by decide +kernel
theorem dX7_beginOrders_100 : decode cX7_beginOrders 100 = .ok (.getfield 30, 3) := by decide +kernel
theorem dX7_beginOrders_103 : decode cX7_beginOrders 103 = .ok (.getfield 162, 3) := by decide +kernel
theorem dX7_beginOrders_106 : decode cX7_beginOrders 106 = .ok (.iload_n 2, 1) := by decide +kernel
theorem dX7_beginOrders_107 : decode cX7_beginOrders 107 = .ok (.iaload, 1) := by decide +kernel
theorem dX7_beginOrders_108 : decode cX7_beginOrders 108 = .ok (.invokestatic 178, 3) := by decide +kernel
theorem dX7_beginOrders_111 : decode cX7_beginOrders 111 = .ok (.iadd, 1) := by decide +kernel
theorem dX7_beginOrders_112 : decode cX7_beginOrders 112 = .ok (.iastore, 1) := by decide +kernel
theorem dX7_beginOrders_113 : decode cX7_beginOrders 113 = .ok (.goto 13, 3) := by decide +kernel
theorem dX7_beginOrders_116 : decode cX7_beginOrders 116 = .ok (.aload_n 0, 1) := by decide +kernel
theorem dX7_beginOrders_117 : decode cX7_beginOrders 117 = .ok (.getfield 30, 3) := by decide +kernel
theorem dX7_beginOrders_120 : decode cX7_beginOrders 120 = .ok (.getfield 153, 3) := by decide +kernel
theorem dX7_beginOrders_123 : decode cX7_beginOrders 123 = .ok (.iload_n 2, 1) := by decide +kernel
theorem dX7_beginOrders_124 : decode cX7_beginOrders 124 = .ok (.iconst 3, 1) := by decide +kernel
theorem dX7_beginOrders_125 : decode cX7_beginOrders 125 = .ok (.iastore, 1) := by decide +kernel
theorem dX7_beginOrders_126 : decode cX7_beginOrders 126 = .ok (.iinc 2 1, 3) := by decide +kernel
theorem dX7_beginOrders_129 : decode cX7_beginOrders 129 = .ok (.goto (-127), 3) := by decide +kernel
theorem dX7_beginOrders_132 : decode cX7_beginOrders 132 = .ok (.return_, 1) := by decide +kernel
theorem dX8_heightIn_0 : decode cX8_heightIn 0 = .ok (.iload_n 0, 1) := by decide +kernel
theorem dX8_heightIn_1 : decode cX8_heightIn 1 = .ok (.ifCond .gt 7, 3) := by decide +kernel
theorem dX8_heightIn_4 : decode cX8_heightIn 4 = .ok (.iconst 0, 1) := by decide +kernel
theorem dX8_heightIn_5 : decode cX8_heightIn 5 = .ok (.goto 9, 3) := by decide +kernel
theorem dX8_heightIn_8 : decode cX8_heightIn 8 = .ok (.bipush 12, 2) := by decide +kernel
theorem dX8_heightIn_10 : decode cX8_heightIn 10 = .ok (.iload_n 1, 1) := by decide +kernel
theorem dX8_heightIn_11 : decode cX8_heightIn 11 = .ok (.imul, 1) := by decide +kernel
theorem dX8_heightIn_12 : decode cX8_heightIn 12 = .ok (.iload_n 0, 1) := by decide +kernel
theorem dX8_heightIn_13 : decode cX8_heightIn 13 = .ok (.idiv, 1) := by decide +kernel
theorem dX8_heightIn_14 : decode cX8_heightIn 14 = .ok (.ireturn, 1) := by decide +kernel
theorem dX8_tonsIn_0 : decode cX8_tonsIn 0 = .ok (.iload_n 0, 1) := by decide +kernel
theorem dX8_tonsIn_1 : decode cX8_tonsIn 1 = .ok (.bipush 12, 2) := by decide +kernel
theorem dX8_tonsIn_3 : decode cX8_tonsIn 3 = .ok (.iload_n 1, 1) := by decide +kernel
theorem dX8_tonsIn_4 : decode cX8_tonsIn 4 = .ok (.isub, 1) := by decide +kernel
theorem dX8_tonsIn_5 : decode cX8_tonsIn 5 = .ok (.imul, 1) := by decide +kernel
theorem dX8_tonsIn_6 : decode cX8_tonsIn 6 = .ok (.bipush 12, 2) := by decide +kernel
theorem dX8_tonsIn_8 : decode cX8_tonsIn 8 = .ok (.iadd, 1) := by decide +kernel
theorem dX8_tonsIn_9 : decode cX8_tonsIn 9 = .ok (.iconst 1, 1) := by decide +kernel
theorem dX8_tonsIn_10 : decode cX8_tonsIn 10 = .ok (.isub, 1) := by decide +kernel
theorem dX8_tonsIn_11 : decode cX8_tonsIn 11 = .ok (.bipush 12, 2) := by decide +kernel
theorem dX8_tonsIn_13 : decode cX8_tonsIn 13 = .ok (.idiv, 1) := by decide +kernel
theorem dX8_tonsIn_14 : decode cX8_tonsIn 14 = .ok (.istore_n 3, 1) := by decide +kernel
theorem dX8_tonsIn_15 : decode cX8_tonsIn 15 = .ok (.iload_n 3, 1) := by decide +kernel
theorem dX8_tonsIn_16 : decode cX8_tonsIn 16 = .ok (.iload_n 2, 1) := by decide +kernel
theorem dX8_tonsIn_17 : decode cX8_tonsIn 17 = .ok (.if_icmp .ge 7, 3) := by decide +kernel
theorem dX8_tonsIn_20 : decode cX8_tonsIn 20 = .ok (.iload_n 3, 1) := by decide +kernel
theorem dX8_tonsIn_21 : decode cX8_tonsIn 21 = .ok (.goto 4, 3) := by decide +kernel
theorem dX8_tonsIn_24 : decode cX8_tonsIn 24 = .ok (.iload_n 2, 1) := by decide +kernel
theorem dX8_tonsIn_25 : decode cX8_tonsIn 25 = .ok (.ireturn, 1) := by decide +kernel
theorem dX7_tonsThrough_0 : decode cX7_tonsThrough 0 = .ok (.aload_n 1, 1) := by decide +kernel
theorem dX7_tonsThrough_1 : decode cX7_tonsThrough 1 = .ok (.getfield 96, 3) := by decide +kernel
theorem dX7_tonsThrough_4 : decode cX7_tonsThrough 4 = .ok (.iload_n 2, 1) := by decide +kernel
theorem dX7_tonsThrough_5 : decode cX7_tonsThrough 5 = .ok (.iaload, 1) := by decide +kernel
theorem dX7_tonsThrough_6 : decode cX7_tonsThrough 6 = .ok (.istore_n 3, 1) := by decide +kernel
theorem dX7_tonsThrough_7 : decode cX7_tonsThrough 7 = .ok (.aload_n 0, 1) := by decide +kernel
theorem dX7_tonsThrough_8 : decode cX7_tonsThrough 8 = .ok (.getfield 21, 3) := by decide +kernel
theorem dX7_tonsThrough_11 : decode cX7_tonsThrough 11 = .ok (.iload_n 2, 1) := by decide +kernel
theorem dX7_tonsThrough_12 : decode cX7_tonsThrough 12 = .ok (.iaload, 1) := by decide +kernel
theorem dX7_tonsThrough_13 : decode cX7_tonsThrough 13 = .ok (.iconst 1, 1) := by decide +kernel
theorem dX7_tonsThrough_14 : decode cX7_tonsThrough 14 = .ok (.if_icmp .ne 16, 3) := by decide +kernel
theorem dX7_tonsThrough_17 : decode cX7_tonsThrough 17 = .ok (.aload_n 1, 1) := by decide +kernel
theorem dX7_tonsThrough_18 : decode cX7_tonsThrough 18 = .ok (.getfield 99, 3) := by decide +kernel
theorem dX7_tonsThrough_21 : decode cX7_tonsThrough 21 = .ok (.iload_n 2, 1) := by decide +kernel
theorem dX7_tonsThrough_22 : decode cX7_tonsThrough 22 = .ok (.iaload, 1) := by decide +kernel
theorem dX7_tonsThrough_23 : decode cX7_tonsThrough 23 = .ok (.iconst 1, 1) := by decide +kernel
theorem dX7_tonsThrough_24 : decode cX7_tonsThrough 24 = .ok (.iadd, 1) := by decide +kernel
theorem dX7_tonsThrough_25 : decode cX7_tonsThrough 25 = .ok (.iconst 2, 1) := by decide +kernel
theorem dX7_tonsThrough_26 : decode cX7_tonsThrough 26 = .ok (.idiv, 1) := by decide +kernel
theorem dX7_tonsThrough_27 : decode cX7_tonsThrough 27 = .ok (.goto 9, 3) := by decide +kernel
theorem dX7_tonsThrough_30 : decode cX7_tonsThrough 30 = .ok (.aload_n 1, 1) := by decide +kernel
theorem dX7_tonsThrough_31 : decode cX7_tonsThrough 31 = .ok (.getfield 99, 3) := by decide +kernel
theorem dX7_tonsThrough_34 : decode cX7_tonsThrough 34 = .ok (.iload_n 2, 1) := by decide +kernel
theorem dX7_tonsThrough_35 : decode cX7_tonsThrough 35 = .ok (.iaload, 1) := by decide +kernel
theorem dX7_tonsThrough_36 : decode cX7_tonsThrough 36 = .ok (.istore 4, 2) := by decide +kernel
theorem dX7_tonsThrough_38 : decode cX7_tonsThrough 38 = .ok (.iload 4, 2) := by decide +kernel
theorem dX7_tonsThrough_40 : decode cX7_tonsThrough 40 = .ok (.aload_n 1, 1) := by decide +kernel
theorem dX7_tonsThrough_41 : decode cX7_tonsThrough 41 = .ok (.getfield 102, 3) := by decide +kernel
theorem dX7_tonsThrough_44 : decode cX7_tonsThrough 44 = .ok (.iload_n 3, 1) := by decide +kernel
theorem dX7_tonsThrough_45 : decode cX7_tonsThrough 45 = .ok (.iaload, 1) := by decide +kernel
theorem dX7_tonsThrough_46 : decode cX7_tonsThrough 46 = .ok (.aload_n 0, 1) := by decide +kernel
theorem dX7_tonsThrough_47 : decode cX7_tonsThrough 47 = .ok (.getfield 9, 3) := by decide +kernel
theorem dX7_tonsThrough_50 : decode cX7_tonsThrough 50 = .ok (.iload_n 3, 1) := by decide +kernel
theorem dX7_tonsThrough_51 : decode cX7_tonsThrough 51 = .ok (.iaload, 1) := by decide +kernel
theorem dX7_tonsThrough_52 : decode cX7_tonsThrough 52 = .ok (.invokestatic 105, 3) := by decide +kernel
theorem dX7_tonsThrough_55 : decode cX7_tonsThrough 55 = .ok (.aload_n 1, 1) := by decide +kernel
theorem dX7_tonsThrough_56 : decode cX7_tonsThrough 56 = .ok (.getfield 102, 3) := by decide +kernel
theorem dX7_tonsThrough_59 : decode cX7_tonsThrough 59 = .ok (.iload_n 3, 1) := by decide +kernel
theorem dX7_tonsThrough_60 : decode cX7_tonsThrough 60 = .ok (.iaload, 1) := by decide +kernel
theorem dX7_tonsThrough_61 : decode cX7_tonsThrough 61 = .ok (.aload_n 0, 1) := by decide +kernel
theorem dX7_tonsThrough_62 : decode cX7_tonsThrough 62 = .ok (.getfield 9, 3) := by decide +kernel
theorem dX7_tonsThrough_65 : decode cX7_tonsThrough 65 = .ok (.iload_n 3, 1) := by decide +kernel
theorem dX7_tonsThrough_66 : decode cX7_tonsThrough 66 = .ok (.iaload, 1) := by decide +kernel
theorem dX7_tonsThrough_67 : decode cX7_tonsThrough 67 = .ok (.isub, 1) := by decide +kernel
theorem dX7_tonsThrough_68 : decode cX7_tonsThrough 68 = .ok (.invokestatic 109, 3) := by decide +kernel
theorem dX7_tonsThrough_71 : decode cX7_tonsThrough 71 = .ok (.ireturn, 1) := by decide +kernel
theorem dX7_comeThroughHoles_0 : decode cX7_comeThroughHoles 0 = .ok (.iconst 0, 1) := by decide +kernel
theorem dX7_comeThroughHoles_1 : decode cX7_comeThroughHoles 1 = .ok (.istore_n 2, 1) := by decide +kernel
theorem dX7_comeThroughHoles_2 : decode cX7_comeThroughHoles 2 = .ok (.iload_n 2, 1) := by decide +kernel
theorem dX7_comeThroughHoles_3 : decode cX7_comeThroughHoles 3 = .ok (.aload_n 1, 1) := by decide +kernel
theorem dX7_comeThroughHoles_4 : decode cX7_comeThroughHoles 4 = .ok (.getfield 196, 3) := by decide +kernel
theorem dX7_comeThroughHoles_7 : decode cX7_comeThroughHoles 7 = .ok (.if_icmp .ge 29, 3) := by decide +kernel
theorem dX7_comeThroughHoles_10 : decode cX7_comeThroughHoles 10 = .ok (.aload_n 0, 1) := by decide +kernel
theorem dX7_comeThroughHoles_11 : decode cX7_comeThroughHoles 11 = .ok (.getfield 9, 3) := by decide +kernel
theorem dX7_comeThroughHoles_14 : decode cX7_comeThroughHoles 14 = .ok (.aload_n 1, 1) := by decide +kernel
theorem dX7_comeThroughHoles_15 : decode cX7_comeThroughHoles 15 = .ok (.getfield 96, 3) := by decide +kernel
theorem dX7_comeThroughHoles_18 : decode cX7_comeThroughHoles 18 = .ok (.iload_n 2, 1) := by decide +kernel
theorem dX7_comeThroughHoles_19 : decode cX7_comeThroughHoles 19 = .ok (.iaload, 1) := by decide +kernel
theorem dX7_comeThroughHoles_20 : decode cX7_comeThroughHoles 20 = .ok (.dup2, 1) := by decide +kernel
theorem dX7_comeThroughHoles_21 : decode cX7_comeThroughHoles 21 = .ok (.iaload, 1) := by decide +kernel
theorem dX7_comeThroughHoles_22 : decode cX7_comeThroughHoles 22 = .ok (.aload_n 0, 1) := by decide +kernel
theorem dX7_comeThroughHoles_23 : decode cX7_comeThroughHoles 23 = .ok (.aload_n 1, 1) := by decide +kernel
theorem dX7_comeThroughHoles_24 : decode cX7_comeThroughHoles 24 = .ok (.iload_n 2, 1) := by decide +kernel
theorem dX7_comeThroughHoles_25 : decode cX7_comeThroughHoles 25 = .ok (.invokevirtual 199, 3) := by decide +kernel
theorem dX7_comeThroughHoles_28 : decode cX7_comeThroughHoles 28 = .ok (.iadd, 1) := by decide +kernel
theorem dX7_comeThroughHoles_29 : decode cX7_comeThroughHoles 29 = .ok (.iastore, 1) := by decide +kernel
theorem dX7_comeThroughHoles_30 : decode cX7_comeThroughHoles 30 = .ok (.iinc 2 1, 3) := by decide +kernel
theorem dX7_comeThroughHoles_33 : decode cX7_comeThroughHoles 33 = .ok (.goto (-31), 3) := by decide +kernel
theorem dX7_comeThroughHoles_36 : decode cX7_comeThroughHoles 36 = .ok (.return_, 1) := by decide +kernel
theorem dX7_comeThroughValves_0 : decode cX7_comeThroughValves 0 = .ok (.iconst 0, 1) := by decide +kernel
theorem dX7_comeThroughValves_1 : decode cX7_comeThroughValves 1 = .ok (.istore_n 2, 1) := by decide +kernel
theorem dX7_comeThroughValves_2 : decode cX7_comeThroughValves 2 = .ok (.iload_n 2, 1) := by decide +kernel
theorem dX7_comeThroughValves_3 : decode cX7_comeThroughValves 3 = .ok (.aload_n 1, 1) := by decide +kernel
theorem dX7_comeThroughValves_4 : decode cX7_comeThroughValves 4 = .ok (.getfield 203, 3) := by decide +kernel
theorem dX7_comeThroughValves_7 : decode cX7_comeThroughValves 7 = .ok (.if_icmp .ge 42, 3) := by decide +kernel
theorem dX7_comeThroughValves_10 : decode cX7_comeThroughValves 10 = .ok (.aload_n 0, 1) := by decide +kernel
theorem dX7_comeThroughValves_11 : decode cX7_comeThroughValves 11 = .ok (.getfield 15, 3) := by decide +kernel
theorem dX7_comeThroughValves_14 : decode cX7_comeThroughValves 14 = .ok (.iload_n 2, 1) := by decide +kernel
theorem dX7_comeThroughValves_15 : decode cX7_comeThroughValves 15 = .ok (.iaload, 1) := by decide +kernel
theorem dX7_comeThroughValves_16 : decode cX7_comeThroughValves 16 = .ok (.iconst 1, 1) := by decide +kernel
theorem dX7_comeThroughValves_17 : decode cX7_comeThroughValves 17 = .ok (.if_icmp .ne 26, 3) := by decide +kernel
theorem dX7_comeThroughValves_20 : decode cX7_comeThroughValves 20 = .ok (.aload_n 0, 1) := by decide +kernel
theorem dX7_comeThroughValves_21 : decode cX7_comeThroughValves 21 = .ok (.getfield 9, 3) := by decide +kernel
theorem dX7_comeThroughValves_24 : decode cX7_comeThroughValves 24 = .ok (.iload_n 2, 1) := by decide +kernel
theorem dX7_comeThroughValves_25 : decode cX7_comeThroughValves 25 = .ok (.aload_n 1, 1) := by decide +kernel
theorem dX7_comeThroughValves_26 : decode cX7_comeThroughValves 26 = .ok (.getfield 102, 3) := by decide +kernel
theorem dX7_comeThroughValves_29 : decode cX7_comeThroughValves 29 = .ok (.iload_n 2, 1) := by decide +kernel
theorem dX7_comeThroughValves_30 : decode cX7_comeThroughValves 30 = .ok (.iaload, 1) := by decide +kernel
theorem dX7_comeThroughValves_31 : decode cX7_comeThroughValves 31 = .ok (.aload_n 0, 1) := by decide +kernel
theorem dX7_comeThroughValves_32 : decode cX7_comeThroughValves 32 = .ok (.getfield 9, 3) := by decide +kernel
theorem dX7_comeThroughValves_35 : decode cX7_comeThroughValves 35 = .ok (.iload_n 2, 1) := by decide +kernel
theorem dX7_comeThroughValves_36 : decode cX7_comeThroughValves 36 = .ok (.iaload, 1) := by decide +kernel
theorem dX7_comeThroughValves_37 : decode cX7_comeThroughValves 37 = .ok (.iconst 5, 1) := by decide +kernel
theorem dX7_comeThroughValves_38 : decode cX7_comeThroughValves 38 = .ok (.iadd, 1) := by decide +kernel
theorem dX7_comeThroughValves_39 : decode cX7_comeThroughValves 39 = .ok (.invokestatic 206, 3) := by decide +kernel
theorem dX7_comeThroughValves_42 : decode cX7_comeThroughValves 42 = .ok (.iastore, 1) := by decide +kernel
theorem dX7_comeThroughValves_43 : decode cX7_comeThroughValves 43 = .ok (.iinc 2 1, 3) := by decide +kernel
theorem dX7_comeThroughValves_46 : decode cX7_comeThroughValves 46 = .ok (.goto (-44), 3) := by decide +kernel
theorem dX7_comeThroughValves_49 : decode cX7_comeThroughValves 49 = .ok (.return_, 1) := by decide +kernel
theorem dX7_takePlace_0 : decode cX7_takePlace 0 = .ok (.iload_n 1, 1) := by decide +kernel
theorem dX7_takePlace_1 : decode cX7_takePlace 1 = .ok (.tableswitch 71 0 3 #[31, 41, 51, 61], 31) := by decide +kernel
theorem dX7_takePlace_32 : decode cX7_takePlace 32 = .ok (.aload_n 0, 1) := by decide +kernel
theorem dX7_takePlace_33 : decode cX7_takePlace 33 = .ok (.getfield 18, 3) := by decide +kernel
theorem dX7_takePlace_36 : decode cX7_takePlace 36 = .ok (.iload_n 2, 1) := by decide +kernel
theorem dX7_takePlace_37 : decode cX7_takePlace 37 = .ok (.iconst 0, 1) := by decide +kernel
theorem dX7_takePlace_38 : decode cX7_takePlace 38 = .ok (.iastore, 1) := by decide +kernel
theorem dX7_takePlace_39 : decode cX7_takePlace 39 = .ok (.goto 40, 3) := by decide +kernel
theorem dX7_takePlace_42 : decode cX7_takePlace 42 = .ok (.aload_n 0, 1) := by decide +kernel
theorem dX7_takePlace_43 : decode cX7_takePlace 43 = .ok (.getfield 18, 3) := by decide +kernel
theorem dX7_takePlace_46 : decode cX7_takePlace 46 = .ok (.iload_n 2, 1) := by decide +kernel
theorem dX7_takePlace_47 : decode cX7_takePlace 47 = .ok (.iconst 1, 1) := by decide +kernel
theorem dX7_takePlace_48 : decode cX7_takePlace 48 = .ok (.iastore, 1) := by decide +kernel
theorem dX7_takePlace_49 : decode cX7_takePlace 49 = .ok (.goto 30, 3) := by decide +kernel
theorem dX7_takePlace_52 : decode cX7_takePlace 52 = .ok (.aload_n 0, 1) := by decide +kernel
theorem dX7_takePlace_53 : decode cX7_takePlace 53 = .ok (.getfield 21, 3) := by decide +kernel
theorem dX7_takePlace_56 : decode cX7_takePlace 56 = .ok (.iload_n 2, 1) := by decide +kernel
theorem dX7_takePlace_57 : decode cX7_takePlace 57 = .ok (.iconst 1, 1) := by decide +kernel
theorem dX7_takePlace_58 : decode cX7_takePlace 58 = .ok (.iastore, 1) := by decide +kernel
theorem dX7_takePlace_59 : decode cX7_takePlace 59 = .ok (.goto 20, 3) := by decide +kernel
theorem dX7_takePlace_62 : decode cX7_takePlace 62 = .ok (.aload_n 0, 1) := by decide +kernel
theorem dX7_takePlace_63 : decode cX7_takePlace 63 = .ok (.getfield 24, 3) := by decide +kernel
theorem dX7_takePlace_66 : decode cX7_takePlace 66 = .ok (.iload_n 2, 1) := by decide +kernel
theorem dX7_takePlace_67 : decode cX7_takePlace 67 = .ok (.iload_n 3, 1) := by decide +kernel
theorem dX7_takePlace_68 : decode cX7_takePlace 68 = .ok (.iastore, 1) := by decide +kernel
theorem dX7_takePlace_69 : decode cX7_takePlace 69 = .ok (.goto 10, 3) := by decide +kernel
theorem dX7_takePlace_72 : decode cX7_takePlace 72 = .ok (.aload_n 0, 1) := by decide +kernel
theorem dX7_takePlace_73 : decode cX7_takePlace 73 = .ok (.getfield 15, 3) := by decide +kernel
theorem dX7_takePlace_76 : decode cX7_takePlace 76 = .ok (.iload_n 2, 1) := by decide +kernel
theorem dX7_takePlace_77 : decode cX7_takePlace 77 = .ok (.iload_n 3, 1) := by decide +kernel
theorem dX7_takePlace_78 : decode cX7_takePlace 78 = .ok (.iastore, 1) := by decide +kernel
theorem dX7_takePlace_79 : decode cX7_takePlace 79 = .ok (.return_, 1) := by decide +kernel
theorem dX7_endOrders_0 : decode cX7_endOrders 0 = .ok (.iconst 0, 1) := by decide +kernel
theorem dX7_endOrders_1 : decode cX7_endOrders 1 = .ok (.istore_n 1, 1) := by decide +kernel
theorem dX7_endOrders_2 : decode cX7_endOrders 2 = .ok (.iload_n 1, 1) := by decide +kernel
theorem dX7_endOrders_3 : decode cX7_endOrders 3 = .ok (.aload_n 0, 1) := by decide +kernel
theorem dX7_endOrders_4 : decode cX7_endOrders 4 = .ok (.getfield 30, 3) := by decide +kernel
theorem dX7_endOrders_7 : decode cX7_endOrders 7 = .ok (.getfield 68, 3) := by decide +kernel
theorem dX7_endOrders_10 : decode cX7_endOrders 10 = .ok (.if_icmp .ge 79, 3) := by decide +kernel
theorem dX7_endOrders_13 : decode cX7_endOrders 13 = .ok (.aload_n 0, 1) := by decide +kernel
theorem dX7_endOrders_14 : decode cX7_endOrders 14 = .ok (.getfield 30, 3) := by decide +kernel
theorem dX7_endOrders_17 : decode cX7_endOrders 17 = .ok (.getfield 153, 3) := by decide +kernel
theorem dX7_endOrders_20 : decode cX7_endOrders 20 = .ok (.iload_n 1, 1) := by decide +kernel
theorem dX7_endOrders_21 : decode cX7_endOrders 21 = .ok (.iaload, 1) := by decide +kernel
theorem dX7_endOrders_22 : decode cX7_endOrders 22 = .ok (.iconst 1, 1) := by decide +kernel
theorem dX7_endOrders_23 : decode cX7_endOrders 23 = .ok (.if_icmp .ne 60, 3) := by decide +kernel
theorem dX7_endOrders_26 : decode cX7_endOrders 26 = .ok (.aload_n 0, 1) := by decide +kernel
theorem dX7_endOrders_27 : decode cX7_endOrders 27 = .ok (.getfield 30, 3) := by decide +kernel
theorem dX7_endOrders_30 : decode cX7_endOrders 30 = .ok (.getfield 156, 3) := by decide +kernel
theorem dX7_endOrders_33 : decode cX7_endOrders 33 = .ok (.iload_n 1, 1) := by decide +kernel
theorem dX7_endOrders_34 : decode cX7_endOrders 34 = .ok (.iaload, 1) := by decide +kernel
theorem dX7_endOrders_35 : decode cX7_endOrders 35 = .ok (.aload_n 0, 1) := by decide +kernel
theorem dX7_endOrders_36 : decode cX7_endOrders 36 = .ok (.getfield 41, 3) := by decide +kernel
theorem dX7_endOrders_39 : decode cX7_endOrders 39 = .ok (.if_icmp .ne 44, 3) := by decide +kernel
theorem dX7_endOrders_42 : decode cX7_endOrders 42 = .ok (.aload_n 0, 1) := by decide +kernel
theorem dX7_endOrders_43 : decode cX7_endOrders 43 = .ok (.getfield 30, 3) := by decide +kernel
theorem dX7_endOrders_46 : decode cX7_endOrders 46 = .ok (.getfield 153, 3) := by decide +kernel
theorem dX7_endOrders_49 : decode cX7_endOrders 49 = .ok (.iload_n 1, 1) := by decide +kernel
theorem dX7_endOrders_50 : decode cX7_endOrders 50 = .ok (.iconst 2, 1) := by decide +kernel
theorem dX7_endOrders_51 : decode cX7_endOrders 51 = .ok (.iastore, 1) := by decide +kernel
theorem dX7_endOrders_52 : decode cX7_endOrders 52 = .ok (.aload_n 0, 1) := by decide +kernel
theorem dX7_endOrders_53 : decode cX7_endOrders 53 = .ok (.aload_n 0, 1) := by decide +kernel
theorem dX7_endOrders_54 : decode cX7_endOrders 54 = .ok (.getfield 30, 3) := by decide +kernel
theorem dX7_endOrders_57 : decode cX7_endOrders 57 = .ok (.getfield 159, 3) := by decide +kernel
theorem dX7_endOrders_60 : decode cX7_endOrders 60 = .ok (.iload_n 1, 1) := by decide +kernel
theorem dX7_endOrders_61 : decode cX7_endOrders 61 = .ok (.iaload, 1) := by decide +kernel
theorem dX7_endOrders_62 : decode cX7_endOrders 62 = .ok (.aload_n 0, 1) := by decide +kernel
theorem dX7_endOrders_63 : decode cX7_endOrders 63 = .ok (.getfield 30, 3) := by decide +kernel
theorem dX7_endOrders_66 : decode cX7_endOrders 66 = .ok (.getfield 162, 3) := by decide +kernel
theorem dX7_endOrders_69 : decode cX7_endOrders 69 = .ok (.iload_n 1, 1) := by decide +kernel
theorem dX7_endOrders_70 : decode cX7_endOrders 70 = .ok (.iaload, 1) := by decide +kernel
theorem dX7_endOrders_71 : decode cX7_endOrders 71 = .ok (.aload_n 0, 1) := by decide +kernel
theorem dX7_endOrders_72 : decode cX7_endOrders 72 = .ok (.getfield 30, 3) := by decide +kernel
theorem dX7_endOrders_75 : decode cX7_endOrders 75 = .ok (.getfield 165, 3) := by decide +kernel
theorem dX7_endOrders_78 : decode cX7_endOrders 78 = .ok (.iload_n 1, 1) := by decide +kernel
theorem dX7_endOrders_79 : decode cX7_endOrders 79 = .ok (.iaload, 1) := by decide +kernel
theorem dX7_endOrders_80 : decode cX7_endOrders 80 = .ok (.invokevirtual 168, 3) := by decide +kernel
theorem dX7_endOrders_83 : decode cX7_endOrders 83 = .ok (.iinc 1 1, 3) := by decide +kernel
theorem dX7_endOrders_86 : decode cX7_endOrders 86 = .ok (.goto (-84), 3) := by decide +kernel
theorem dX7_endOrders_89 : decode cX7_endOrders 89 = .ok (.return_, 1) := by decide +kernel
theorem dX7_flowThroughDoor_0 : decode cX7_flowThroughDoor 0 = .ok (.aload_n 0, 1) := by decide +kernel
theorem dX7_flowThroughDoor_1 : decode cX7_flowThroughDoor 1 = .ok (.getfield 18, 3) := by decide +kernel
theorem dX7_flowThroughDoor_4 : decode cX7_flowThroughDoor 4 = .ok (.iload_n 2, 1) := by decide +kernel
theorem dX7_flowThroughDoor_5 : decode cX7_flowThroughDoor 5 = .ok (.iaload, 1) := by decide +kernel
theorem dX7_flowThroughDoor_6 : decode cX7_flowThroughDoor 6 = .ok (.ifCond .ne 4, 3) := by decide +kernel
theorem dX7_flowThroughDoor_9 : decode cX7_flowThroughDoor 9 = .ok (.return_, 1) := by decide +kernel
theorem dX7_flowThroughDoor_10 : decode cX7_flowThroughDoor 10 = .ok (.aload_n 1, 1) := by decide +kernel
theorem dX7_flowThroughDoor_11 : decode cX7_flowThroughDoor 11 = .ok (.getfield 209, 3) := by decide +kernel
theorem dX7_flowThroughDoor_14 : decode cX7_flowThroughDoor 14 = .ok (.iload_n 2, 1) := by decide +kernel
theorem dX7_flowThroughDoor_15 : decode cX7_flowThroughDoor 15 = .ok (.iaload, 1) := by decide +kernel
theorem dX7_flowThroughDoor_16 : decode cX7_flowThroughDoor 16 = .ok (.istore_n 3, 1) := by decide +kernel
theorem dX7_flowThroughDoor_17 : decode cX7_flowThroughDoor 17 = .ok (.aload_n 1, 1) := by decide +kernel
theorem dX7_flowThroughDoor_18 : decode cX7_flowThroughDoor 18 = .ok (.getfield 212, 3) := by decide +kernel
theorem dX7_flowThroughDoor_21 : decode cX7_flowThroughDoor 21 = .ok (.iload_n 2, 1) := by decide +kernel
theorem dX7_flowThroughDoor_22 : decode cX7_flowThroughDoor 22 = .ok (.iaload, 1) := by decide +kernel
theorem dX7_flowThroughDoor_23 : decode cX7_flowThroughDoor 23 = .ok (.istore 4, 2) := by decide +kernel
theorem dX7_flowThroughDoor_25 : decode cX7_flowThroughDoor 25 = .ok (.iconst 0, 1) := by decide +kernel
theorem dX7_flowThroughDoor_26 : decode cX7_flowThroughDoor 26 = .ok (.istore 5, 2) := by decide +kernel
theorem dX7_flowThroughDoor_28 : decode cX7_flowThroughDoor 28 = .ok (.iload 5, 2) := by decide +kernel
theorem dX7_flowThroughDoor_30 : decode cX7_flowThroughDoor 30 = .ok (.aload_n 1, 1) := by decide +kernel
theorem dX7_flowThroughDoor_31 : decode cX7_flowThroughDoor 31 = .ok (.getfield 215, 3) := by decide +kernel
theorem dX7_flowThroughDoor_34 : decode cX7_flowThroughDoor 34 = .ok (.iload_n 2, 1) := by decide +kernel
theorem dX7_flowThroughDoor_35 : decode cX7_flowThroughDoor 35 = .ok (.iaload, 1) := by decide +kernel
theorem dX7_flowThroughDoor_36 : decode cX7_flowThroughDoor 36 = .ok (.if_icmp .ge 106, 3) := by decide +kernel
theorem dX7_flowThroughDoor_39 : decode cX7_flowThroughDoor 39 = .ok (.aload_n 1, 1) := by decide +kernel
theorem dX7_flowThroughDoor_40 : decode cX7_flowThroughDoor 40 = .ok (.getfield 102, 3) := by decide +kernel
theorem dX7_flowThroughDoor_43 : decode cX7_flowThroughDoor 43 = .ok (.iload_n 3, 1) := by decide +kernel
theorem dX7_flowThroughDoor_44 : decode cX7_flowThroughDoor 44 = .ok (.iaload, 1) := by decide +kernel
theorem dX7_flowThroughDoor_45 : decode cX7_flowThroughDoor 45 = .ok (.aload_n 0, 1) := by decide +kernel
theorem dX7_flowThroughDoor_46 : decode cX7_flowThroughDoor 46 = .ok (.getfield 9, 3) := by decide +kernel
theorem dX7_flowThroughDoor_49 : decode cX7_flowThroughDoor 49 = .ok (.iload_n 3, 1) := by decide +kernel
theorem dX7_flowThroughDoor_50 : decode cX7_flowThroughDoor 50 = .ok (.iaload, 1) := by decide +kernel
theorem dX7_flowThroughDoor_51 : decode cX7_flowThroughDoor 51 = .ok (.invokestatic 105, 3) := by decide +kernel
theorem dX7_flowThroughDoor_54 : decode cX7_flowThroughDoor 54 = .ok (.istore 6, 2) := by decide +kernel
theorem dX7_flowThroughDoor_56 : decode cX7_flowThroughDoor 56 = .ok (.aload_n 1, 1) := by decide +kernel
theorem dX7_flowThroughDoor_57 : decode cX7_flowThroughDoor 57 = .ok (.getfield 102, 3) := by decide +kernel
theorem dX7_flowThroughDoor_60 : decode cX7_flowThroughDoor 60 = .ok (.iload 4, 2) := by decide +kernel
theorem dX7_flowThroughDoor_62 : decode cX7_flowThroughDoor 62 = .ok (.iaload, 1) := by decide +kernel
theorem dX7_flowThroughDoor_63 : decode cX7_flowThroughDoor 63 = .ok (.aload_n 0, 1) := by decide +kernel
theorem dX7_flowThroughDoor_64 : decode cX7_flowThroughDoor 64 = .ok (.getfield 9, 3) := by decide +kernel
theorem dX7_flowThroughDoor_67 : decode cX7_flowThroughDoor 67 = .ok (.iload 4, 2) := by decide +kernel
theorem dX7_flowThroughDoor_69 : decode cX7_flowThroughDoor 69 = .ok (.iaload, 1) := by decide +kernel
theorem dX7_flowThroughDoor_70 : decode cX7_flowThroughDoor 70 = .ok (.invokestatic 105, 3) := by decide +kernel
theorem dX7_flowThroughDoor_73 : decode cX7_flowThroughDoor 73 = .ok (.istore 7, 2) := by decide +kernel
theorem dX7_flowThroughDoor_75 : decode cX7_flowThroughDoor 75 = .ok (.iload 6, 2) := by decide +kernel
theorem dX7_flowThroughDoor_77 : decode cX7_flowThroughDoor 77 = .ok (.iload 7, 2) := by decide +kernel
theorem dX7_flowThroughDoor_79 : decode cX7_flowThroughDoor 79 = .ok (.if_icmp .eq 19, 3) := by decide +kernel
theorem dX7_flowThroughDoor_82 : decode cX7_flowThroughDoor 82 = .ok (.iload 6, 2) := by decide +kernel
theorem dX7_flowThroughDoor_84 : decode cX7_flowThroughDoor 84 = .ok (.iload 7, 2) := by decide +kernel
theorem dX7_flowThroughDoor_86 : decode cX7_flowThroughDoor 86 = .ok (.invokestatic 126, 3) := by decide +kernel
theorem dX7_flowThroughDoor_89 : decode cX7_flowThroughDoor 89 = .ok (.aload_n 1, 1) := by decide +kernel
theorem dX7_flowThroughDoor_90 : decode cX7_flowThroughDoor 90 = .ok (.getfield 218, 3) := by decide +kernel
theorem dX7_flowThroughDoor_93 : decode cX7_flowThroughDoor 93 = .ok (.iload_n 2, 1) := by decide +kernel
theorem dX7_flowThroughDoor_94 : decode cX7_flowThroughDoor 94 = .ok (.iaload, 1) := by decide +kernel
theorem dX7_flowThroughDoor_95 : decode cX7_flowThroughDoor 95 = .ok (.if_icmp .gt 4, 3) := by decide +kernel
theorem dX7_flowThroughDoor_98 : decode cX7_flowThroughDoor 98 = .ok (.return_, 1) := by decide +kernel
theorem dX7_flowThroughDoor_99 : decode cX7_flowThroughDoor 99 = .ok (.iload 6, 2) := by decide +kernel
theorem dX7_flowThroughDoor_101 : decode cX7_flowThroughDoor 101 = .ok (.iload 7, 2) := by decide +kernel
theorem dX7_flowThroughDoor_103 : decode cX7_flowThroughDoor 103 = .ok (.if_icmp .le 7, 3) := by decide +kernel
theorem dX7_flowThroughDoor_106 : decode cX7_flowThroughDoor 106 = .ok (.iconst 1, 1) := by decide +kernel
theorem dX7_flowThroughDoor_107 : decode cX7_flowThroughDoor 107 = .ok (.goto 4, 3) := by decide +kernel
theorem dX7_flowThroughDoor_110 : decode cX7_flowThroughDoor 110 = .ok (.iconst (-1), 1) := by decide +kernel
theorem dX7_flowThroughDoor_111 : decode cX7_flowThroughDoor 111 = .ok (.istore 8, 2) := by decide +kernel
theorem dX7_flowThroughDoor_113 : decode cX7_flowThroughDoor 113 = .ok (.aload_n 0, 1) := by decide +kernel
theorem dX7_flowThroughDoor_114 : decode cX7_flowThroughDoor 114 = .ok (.getfield 9, 3) := by decide +kernel
theorem dX7_flowThroughDoor_117 : decode cX7_flowThroughDoor 117 = .ok (.iload_n 3, 1) := by decide +kernel
theorem dX7_flowThroughDoor_118 : decode cX7_flowThroughDoor 118 = .ok (.dup2, 1) := by decide +kernel
theorem dX7_flowThroughDoor_119 : decode cX7_flowThroughDoor 119 = .ok (.iaload, 1) := by decide +kernel
theorem dX7_flowThroughDoor_120 : decode cX7_flowThroughDoor 120 = .ok (.iload 8, 2) := by decide +kernel
theorem dX7_flowThroughDoor_122 : decode cX7_flowThroughDoor 122 = .ok (.isub, 1) := by decide +kernel
theorem dX7_flowThroughDoor_123 : decode cX7_flowThroughDoor 123 = .ok (.iastore, 1) := by decide +kernel
theorem dX7_flowThroughDoor_124 : decode cX7_flowThroughDoor 124 = .ok (.aload_n 0, 1) := by decide +kernel
theorem dX7_flowThroughDoor_125 : decode cX7_flowThroughDoor 125 = .ok (.getfield 9, 3) := by decide +kernel
theorem dX7_flowThroughDoor_128 : decode cX7_flowThroughDoor 128 = .ok (.iload 4, 2) := by decide +kernel
theorem dX7_flowThroughDoor_130 : decode cX7_flowThroughDoor 130 = .ok (.dup2, 1) := by decide +kernel
theorem dX7_flowThroughDoor_131 : decode cX7_flowThroughDoor 131 = .ok (.iaload, 1) := by decide +kernel
theorem dX7_flowThroughDoor_132 : decode cX7_flowThroughDoor 132 = .ok (.iload 8, 2) := by decide +kernel
theorem dX7_flowThroughDoor_134 : decode cX7_flowThroughDoor 134 = .ok (.iadd, 1) := by decide +kernel
theorem dX7_flowThroughDoor_135 : decode cX7_flowThroughDoor 135 = .ok (.iastore, 1) := by decide +kernel
theorem dX7_flowThroughDoor_136 : decode cX7_flowThroughDoor 136 = .ok (.iinc 5 1, 3) := by decide +kernel
theorem dX7_flowThroughDoor_139 : decode cX7_flowThroughDoor 139 = .ok (.goto (-111), 3) := by decide +kernel
theorem dX7_flowThroughDoor_142 : decode cX7_flowThroughDoor 142 = .ok (.return_, 1) := by decide +kernel
def b_X7_beginOrders_2 (F : Nat) (S : Nat) (Q : Nat) (t1 : Int32 × Mm) : Option ((Int32 × Mm) ⊕ (Mm)) :=
  if (t1.2 (S + 6) 0) ≤ t1.1 then (some (Sum.inr t1.2)) else ((ald t1.2 (S + 11) 12 t1.1).bind fun x3 => (if x3 = 0 then ((ald t1.2 (S + 7) 12 t1.1).bind fun x5 => if x5 = (t1.2 S 0) then ((ald t1.2 (S + 8) 12 t1.1).bind fun x6 => (ald t1.2 (S + 9) 12 t1.1).bind fun x7 => (f_X7_canBegin F t1.2 S Q x6 x7).bind fun x8 => if x8 = 0 then ((ast t1.2 (S + 11) 12 t1.1 3).bind fun m10 => some m10) else ((ast t1.2 (S + 11) 12 t1.1 1).bind fun m11 => (ald m11 (S + 8) 12 t1.1).bind fun x12 => (ald m11 (S + 9) 12 t1.1).bind fun x13 => (f_X8_minutesFor m11 Q x12 x13).bind fun x14 => (ast m11 (S + 12) 12 t1.1 ((m11 S 0) + x14)).bind fun m16 => some m16)) else (some t1.2)) else (some t1.2) : Option (Mm)).bind fun y4 => some (Sum.inl (t1.1 + 1, y4)))
def f_X7_beginOrders (F : Nat) (m : Mm) (S : Nat) (Q : Nat) : Option (Mm) :=
  (iter F (b_X7_beginOrders_2 F S Q) ((0, m) : Int32 × Mm)).bind (fun e2 : Mm => some e2)
set_option maxHeartbeats 4000000 in
set_option maxRecDepth 100000 in
theorem ct_X7_beginOrders (F : Nat) {n : Nat} (hn : 113 ≤ n) (P D : Nat) (T : Option Nat) (m : Mm) (S : Nat) (hS : isSt S) (Q : Nat) (hQ : isPl Q) : Ct yX7_beginOrders cX7_beginOrders 3 none 2 46 [.ref S, .ref Q] n n m (RF P D T) (rV (RF P D T) (f_X7_beginOrders F m S Q)) := by
  refine Ct.ofV (own := RX7) (nm := "beginOrders") [(0, .ref S), (1, .ref Q)] (by decide) (Nat.le_of_ble_eq_true rfl) rfl rfl rfl ?_
  unfold f_X7_beginOrders
  refine J_iconst 0 dX7_beginOrders_0 (by decide) ?_
  refine J_istore_n 2 [(2, .int 0), (0, .ref S), (1, .ref Q)] dX7_beginOrders_1 rfl (by decide) rfl ?_
  refine J_lv [1, 2, 0] rfl ?_
  refine J_loop (pc := 2) (fun t1 : Int32 × Mm => [(0, .ref S), (1, .ref Q), (2, .int t1.1)]) (fun t1 => t1.2) (fun _ => 132) (fun e2 => []) (fun _ => []) (fun e2 => e2) ?_ (fun t1 k1 hBt1 hXt1 => ?_) F ((0, m))
  · refine fun e2 => ?_
    exact J_vretV dX7_beginOrders_132 rfl rfl
  · unfold b_X7_beginOrders_2
    refine J_iload_n 2 2 t1.1 dX7_beginOrders_2 rfl rfl ?_
    refine J_aload_n 0 0 S dX7_beginOrders_3 rfl rfl ?_
    refine J_getR S 7 9 (S + 6) dX7_beginOrders_4 fl_7_30 (layc_St_0 hS) rfl (lt_St_0 hS hn) (rf_St_0_9 hS) ?_
    refine J_getI (S + 6) 0 0 dX7_beginOrders_7 fl_7_68 (layc_St_6 hS) rfl (lt_St_6 hS hn) ?_
    refine J_icmp_ge 132 dX7_beginOrders_10 (by decide) ?_ ?_
    · exact J_lv [] rfl (hXt1 t1.2)
    · refine J_aload_n 0 0 S dX7_beginOrders_13 rfl rfl ?_
      refine J_getR S 7 9 (S + 6) dX7_beginOrders_14 fl_7_30 (layc_St_0 hS) rfl (lt_St_0 hS hn) (rf_St_0_9 hS) ?_
      refine J_getR (S + 6) 0 5 (S + 11) dX7_beginOrders_17 fl_7_153 (layc_St_6 hS) rfl (lt_St_6 hS hn) (rf_St_6_5 hS) ?_
      refine J_iload_n 2 2 t1.1 dX7_beginOrders_20 rfl rfl ?_
      refine J_iald (S + 11) 12 dX7_beginOrders_21 (lay_St_11 hS) (lt_St_11 hS hn) (fun x3 => ?_)
      refine J_seqJ 126 (fun y4 : Mm => [(0, .ref S), (1, .ref Q), (2, .int t1.1)]) (fun y4 => []) (fun y4 => y4) (fun y4 => ?_) (fun k1 hEy4 => ?_)
      · refine J_iinc 2 2 [(2, .int (t1.1 + 1)), (0, .ref S), (1, .ref Q)] t1.1 (t1.1 + 1) dX7_beginOrders_126 rfl rfl (by decide) rfl ?_
        refine J_goto 2 dX7_beginOrders_129 (by decide) ?_
        exact J_lv [1, 2, 0] rfl (hBt1 (t1.1 + 1, y4))
      · refine J_if_ne 126 dX7_beginOrders_22 (by decide) ?_ ?_
        · exact J_lv [0, 1, 2] rfl (hEy4 t1.2)
        · refine J_aload_n 0 0 S dX7_beginOrders_25 rfl rfl ?_
          refine J_getR S 7 9 (S + 6) dX7_beginOrders_26 fl_7_30 (layc_St_0 hS) rfl (lt_St_0 hS hn) (rf_St_0_9 hS) ?_
          refine J_getR (S + 6) 0 1 (S + 7) dX7_beginOrders_29 fl_7_172 (layc_St_6 hS) rfl (lt_St_6 hS hn) (rf_St_6_1 hS) ?_
          refine J_iload_n 2 2 t1.1 dX7_beginOrders_32 rfl rfl ?_
          refine J_iald (S + 7) 12 dX7_beginOrders_33 (lay_St_7 hS) (lt_St_7 hS hn) (fun x5 => ?_)
          refine J_aload_n 0 0 S dX7_beginOrders_34 rfl rfl ?_
          refine J_getI S 7 0 dX7_beginOrders_35 fl_7_41 (layc_St_0 hS) rfl (lt_St_0 hS hn) ?_
          refine J_icmp_ne 126 dX7_beginOrders_38 (by decide) ?_ ?_
          · exact J_lv [0, 1, 2] rfl (hEy4 t1.2)
          · refine J_aload_n 0 0 S dX7_beginOrders_41 rfl rfl ?_
            refine J_aload_n 1 1 Q dX7_beginOrders_42 rfl rfl ?_
            refine J_aload_n 0 0 S dX7_beginOrders_43 rfl rfl ?_
            refine J_getR S 7 9 (S + 6) dX7_beginOrders_44 fl_7_30 (layc_St_0 hS) rfl (lt_St_0 hS hn) (rf_St_0_9 hS) ?_
            refine J_getR (S + 6) 0 2 (S + 8) dX7_beginOrders_47 fl_7_159 (layc_St_6 hS) rfl (lt_St_6 hS hn) (rf_St_6_2 hS) ?_
            refine J_iload_n 2 2 t1.1 dX7_beginOrders_50 rfl rfl ?_
            refine J_iald (S + 8) 12 dX7_beginOrders_51 (lay_St_8 hS) (lt_St_8 hS hn) (fun x6 => ?_)
            refine J_aload_n 0 0 S dX7_beginOrders_52 rfl rfl ?_
            refine J_getR S 7 9 (S + 6) dX7_beginOrders_53 fl_7_30 (layc_St_0 hS) rfl (lt_St_0 hS hn) (rf_St_0_9 hS) ?_
            refine J_getR (S + 6) 0 3 (S + 9) dX7_beginOrders_56 fl_7_162 (layc_St_6 hS) rfl (lt_St_6 hS hn) (rf_St_6_3 hS) ?_
            refine J_iload_n 2 2 t1.1 dX7_beginOrders_59 rfl rfl ?_
            refine J_iald (S + 9) 12 dX7_beginOrders_60 (lay_St_9 hS) (lt_St_9 hS hn) (fun x7 => ?_)
            refine J_callVP S 7 3 [.ref Q, .int x6, .int x7] dX7_beginOrders_61 mv_X7_canBegin mv_X7_canBeginv lk_7_174 (ct_X7_canBegin F hn P D T t1.2 S hS Q hQ x6 x7) rfl (layc_St_0 hS) (by decide) rfl (lt_St_0 hS hn) ⟨by decide, by decide⟩ (Nat.le_of_ble_eq_true rfl) (fun x8 => ?_)
            refine J_if_eq 116 dX7_beginOrders_64 (by decide) ?_ ?_
            · refine J_aload_n 0 0 S dX7_beginOrders_116 rfl rfl ?_
              refine J_getR S 7 9 (S + 6) dX7_beginOrders_117 fl_7_30 (layc_St_0 hS) rfl (lt_St_0 hS hn) (rf_St_0_9 hS) ?_
              refine J_getR (S + 6) 0 5 (S + 11) dX7_beginOrders_120 fl_7_153 (layc_St_6 hS) rfl (lt_St_6 hS hn) (rf_St_6_5 hS) ?_
              refine J_iload_n 2 2 t1.1 dX7_beginOrders_123 rfl rfl ?_
              refine J_iconst 3 dX7_beginOrders_124 (by decide) ?_
              refine J_iast (S + 11) 12 dX7_beginOrders_125 (lay_St_11 hS) (lt_St_11 hS hn) (fun m10 => ?_)
              exact J_lv [0, 1, 2] rfl (hEy4 m10)
            · refine J_aload_n 0 0 S dX7_beginOrders_67 rfl rfl ?_
              refine J_getR S 7 9 (S + 6) dX7_beginOrders_68 fl_7_30 (layc_St_0 hS) rfl (lt_St_0 hS hn) (rf_St_0_9 hS) ?_
              refine J_getR (S + 6) 0 5 (S + 11) dX7_beginOrders_71 fl_7_153 (layc_St_6 hS) rfl (lt_St_6 hS hn) (rf_St_6_5 hS) ?_
              refine J_iload_n 2 2 t1.1 dX7_beginOrders_74 rfl rfl ?_
              refine J_iconst 1 dX7_beginOrders_75 (by decide) ?_
              refine J_iast (S + 11) 12 dX7_beginOrders_76 (lay_St_11 hS) (lt_St_11 hS hn) (fun m11 => ?_)
              refine J_aload_n 0 0 S dX7_beginOrders_77 rfl rfl ?_
              refine J_getR S 7 9 (S + 6) dX7_beginOrders_78 fl_7_30 (layc_St_0 hS) rfl (lt_St_0 hS hn) (rf_St_0_9 hS) ?_
              refine J_getR (S + 6) 0 6 (S + 12) dX7_beginOrders_81 fl_7_156 (layc_St_6 hS) rfl (lt_St_6 hS hn) (rf_St_6_6 hS) ?_
              refine J_iload_n 2 2 t1.1 dX7_beginOrders_84 rfl rfl ?_
              refine J_aload_n 0 0 S dX7_beginOrders_85 rfl rfl ?_
              refine J_getI S 7 0 dX7_beginOrders_86 fl_7_41 (layc_St_0 hS) rfl (lt_St_0 hS hn) ?_
              refine J_aload_n 1 1 Q dX7_beginOrders_89 rfl rfl ?_
              refine J_aload_n 0 0 S dX7_beginOrders_90 rfl rfl ?_
              refine J_getR S 7 9 (S + 6) dX7_beginOrders_91 fl_7_30 (layc_St_0 hS) rfl (lt_St_0 hS hn) (rf_St_0_9 hS) ?_
              refine J_getR (S + 6) 0 2 (S + 8) dX7_beginOrders_94 fl_7_159 (layc_St_6 hS) rfl (lt_St_6 hS hn) (rf_St_6_2 hS) ?_
              refine J_iload_n 2 2 t1.1 dX7_beginOrders_97 rfl rfl ?_
              refine J_iald (S + 8) 12 dX7_beginOrders_98 (lay_St_8 hS) (lt_St_8 hS hn) (fun x12 => ?_)
              refine J_aload_n 0 0 S dX7_beginOrders_99 rfl rfl ?_
              refine J_getR S 7 9 (S + 6) dX7_beginOrders_100 fl_7_30 (layc_St_0 hS) rfl (lt_St_0 hS hn) (rf_St_0_9 hS) ?_
              refine J_getR (S + 6) 0 3 (S + 9) dX7_beginOrders_103 fl_7_162 (layc_St_6 hS) rfl (lt_St_6 hS hn) (rf_St_6_3 hS) ?_
              refine J_iload_n 2 2 t1.1 dX7_beginOrders_106 rfl rfl ?_
              refine J_iald (S + 9) 12 dX7_beginOrders_107 (lay_St_9 hS) (lt_St_9 hS hn) (fun x13 => ?_)
              refine J_callSNP 3 "WhichHold" [.ref Q, .int x12, .int x13] dX7_beginOrders_108 mv_X8_minutesFor mv_X8_minutesFors lk_7_178 (ct_X8_minutesFor F hn P D T m11 Q hQ x12 x13) rfl ⟨by decide, by decide⟩ (Nat.le_of_ble_eq_true rfl) (fun x14 => ?_)
              refine J_iadd dX7_beginOrders_111 ?_
              refine J_iast (S + 12) 12 dX7_beginOrders_112 (lay_St_12 hS) (lt_St_12 hS hn) (fun m16 => ?_)
              refine J_goto 126 dX7_beginOrders_113 (by decide) ?_
              exact J_lv [0, 1, 2] rfl (hEy4 m16)
def f_X8_heightIn (a0 : Int32) (a1 : Int32) : Option (Int32) :=
  if 0 < a0 then ((odiv ((12 : Int32) * a1) a0).bind fun x1 => some x1) else (some 0)
set_option maxHeartbeats 4000000 in
set_option maxRecDepth 100000 in
theorem ct_X8_heightIn (F : Nat) {n : Nat} (hn : 113 ≤ n) (P D : Nat) (T : Option Nat) (m : Mm) (a0 : Int32) (a1 : Int32) : Ct yX8_heightIn cX8_heightIn 2 (some .int) 0 0 [.int a0, .int a1] n n m (RF P D T) (rP m (RF P D T) (f_X8_heightIn a0 a1)) := by
  refine Ct.ofP (own := RX8) (nm := "heightIn") [(0, .int a0), (1, .int a1)] (by decide) (Nat.le_of_ble_eq_true rfl) rfl rfl rfl ?_
  unfold f_X8_heightIn
  refine J_iload_n 0 0 a0 dX8_heightIn_0 rfl rfl ?_
  refine J_if_gt 8 dX8_heightIn_1 (by decide) ?_ ?_
  · refine J_bipush 12 dX8_heightIn_8 (by decide) ?_
    refine J_iload_n 1 1 a1 dX8_heightIn_10 rfl rfl ?_
    refine J_imul dX8_heightIn_11 ?_
    refine J_iload_n 0 0 a0 dX8_heightIn_12 rfl rfl ?_
    refine J_idiv dX8_heightIn_13 (fun x1 => ?_)
    exact J_iretP dX8_heightIn_14 rfl rfl
  · refine J_iconst 0 dX8_heightIn_4 (by decide) ?_
    refine J_goto 14 dX8_heightIn_5 (by decide) ?_
    exact J_iretP dX8_heightIn_14 rfl rfl
def f_X8_tonsIn (a0 : Int32) (a1 : Int32) (a2 : Int32) : Option (Int32) :=
  (odiv (((a0 * ((12 : Int32) - a1)) + (12 : Int32)) - (1 : Int32)) (12 : Int32)).bind fun x1 => if a2 ≤ x1 then (some a2) else (some x1)
set_option maxHeartbeats 4000000 in
set_option maxRecDepth 100000 in
theorem ct_X8_tonsIn (F : Nat) {n : Nat} (hn : 113 ≤ n) (P D : Nat) (T : Option Nat) (m : Mm) (a0 : Int32) (a1 : Int32) (a2 : Int32) : Ct yX8_tonsIn cX8_tonsIn 4 (some .int) 0 0 [.int a0, .int a1, .int a2] n n m (RF P D T) (rP m (RF P D T) (f_X8_tonsIn a0 a1 a2)) := by
  refine Ct.ofP (own := RX8) (nm := "tonsIn") [(0, .int a0), (1, .int a1), (2, .int a2)] (by decide) (Nat.le_of_ble_eq_true rfl) rfl rfl rfl ?_
  unfold f_X8_tonsIn
  refine J_iload_n 0 0 a0 dX8_tonsIn_0 rfl rfl ?_
  refine J_bipush 12 dX8_tonsIn_1 (by decide) ?_
  refine J_iload_n 1 1 a1 dX8_tonsIn_3 rfl rfl ?_
  refine J_isub dX8_tonsIn_4 ?_
  refine J_imul dX8_tonsIn_5 ?_
  refine J_bipush 12 dX8_tonsIn_6 (by decide) ?_
  refine J_iadd dX8_tonsIn_8 ?_
  refine J_iconst 1 dX8_tonsIn_9 (by decide) ?_
  refine J_isub dX8_tonsIn_10 ?_
  refine J_bipush 12 dX8_tonsIn_11 (by decide) ?_
  refine J_idiv dX8_tonsIn_13 (fun x1 => ?_)
  refine J_istore_n 3 [(3, .int x1), (0, .int a0), (1, .int a1), (2, .int a2)] dX8_tonsIn_14 rfl (by decide) rfl ?_
  refine J_iload_n 3 0 x1 dX8_tonsIn_15 rfl rfl ?_
  refine J_iload_n 2 3 a2 dX8_tonsIn_16 rfl rfl ?_
  refine J_icmp_ge 24 dX8_tonsIn_17 (by decide) ?_ ?_
  · refine J_iload_n 2 3 a2 dX8_tonsIn_24 rfl rfl ?_
    exact J_iretP dX8_tonsIn_25 rfl rfl
  · refine J_iload_n 3 0 x1 dX8_tonsIn_20 rfl rfl ?_
    refine J_goto 25 dX8_tonsIn_21 (by decide) ?_
    exact J_iretP dX8_tonsIn_25 rfl rfl
def f_X7_tonsThrough (m : Mm) (S : Nat) (Q : Nat) (a2 : Int32) : Option (Int32) :=
  (ald m (Q + 11) 4 a2).bind fun x1 => (ald m (S + 4) 4 a2).bind fun x2 => (if x2 = (1 : Int32) then ((ald m (Q + 12) 4 a2).bind fun x5 => (odiv (x5 + (1 : Int32)) (2 : Int32)).bind fun x6 => some x6) else ((ald m (Q + 12) 4 a2).bind fun x4 => some x4) : Option (Int32)).bind fun y3 => (ald m (Q + 1) 8 x1).bind fun x7 => (ald m (S + 1) 8 x1).bind fun x8 => (f_X8_heightIn x7 x8).bind fun x9 => (ald m (Q + 1) 8 x1).bind fun x11 => (ald m (S + 1) 8 x1).bind fun x12 => (f_X8_tonsIn y3 x9 (x11 - x12)).bind fun x13 => some x13
set_option maxHeartbeats 4000000 in
set_option maxRecDepth 100000 in
theorem ct_X7_tonsThrough (F : Nat) {n : Nat} (hn : 113 ≤ n) (P D : Nat) (T : Option Nat) (m : Mm) (S : Nat) (hS : isSt S) (Q : Nat) (hQ : isPl Q) (a2 : Int32) : Ct yX7_tonsThrough cX7_tonsThrough 5 (some .int) 1 23 [.ref S, .ref Q, .int a2] n n m (RF P D T) (rP m (RF P D T) (f_X7_tonsThrough m S Q a2)) := by
  refine Ct.ofP (own := RX7) (nm := "tonsThrough") [(0, .ref S), (1, .ref Q), (2, .int a2)] (by decide) (Nat.le_of_ble_eq_true rfl) rfl rfl rfl ?_
  unfold f_X7_tonsThrough
  refine J_aload_n 1 1 Q dX7_tonsThrough_0 rfl rfl ?_
  refine J_getR Q 1 14 (Q + 11) dX7_tonsThrough_1 fl_7_96 (layc_Pl_0 hQ) rfl (lt_Pl_0 hQ hn) (rf_Pl_0_14 hQ) ?_
  refine J_iload_n 2 2 a2 dX7_tonsThrough_4 rfl rfl ?_
  refine J_iald (Q + 11) 4 dX7_tonsThrough_5 (lay_Pl_11 hQ) (lt_Pl_11 hQ hn) (fun x1 => ?_)
  refine J_istore_n 3 [(3, .int x1), (0, .ref S), (1, .ref Q), (2, .int a2)] dX7_tonsThrough_6 rfl (by decide) rfl ?_
  refine J_aload_n 0 1 S dX7_tonsThrough_7 rfl rfl ?_
  refine J_getR S 7 7 (S + 4) dX7_tonsThrough_8 fl_7_21 (layc_St_0 hS) rfl (lt_St_0 hS hn) (rf_St_0_7 hS) ?_
  refine J_iload_n 2 3 a2 dX7_tonsThrough_11 rfl rfl ?_
  refine J_iald (S + 4) 4 dX7_tonsThrough_12 (lay_St_4 hS) (lt_St_4 hS hn) (fun x2 => ?_)
  refine J_iconst 1 dX7_tonsThrough_13 (by decide) ?_
  refine J_seqJ 36 (fun y3 : Int32 => [(0, .ref S), (1, .ref Q), (3, .int x1)]) (fun y3 => [.int y3]) (fun y3 => m) (fun y3 => ?_) (fun k1 hEy3 => ?_)
  · refine J_istore 4 [(4, .int y3), (0, .ref S), (1, .ref Q), (3, .int x1)] dX7_tonsThrough_36 (by decide) rfl ?_
    refine J_iload 4 0 y3 dX7_tonsThrough_38 rfl ?_
    refine J_aload_n 1 2 Q dX7_tonsThrough_40 rfl rfl ?_
    refine J_getR Q 1 4 (Q + 1) dX7_tonsThrough_41 fl_7_102 (layc_Pl_0 hQ) rfl (lt_Pl_0 hQ hn) (rf_Pl_0_4 hQ) ?_
    refine J_iload_n 3 3 x1 dX7_tonsThrough_44 rfl rfl ?_
    refine J_iald (Q + 1) 8 dX7_tonsThrough_45 (lay_Pl_1 hQ) (lt_Pl_1 hQ hn) (fun x7 => ?_)
    refine J_aload_n 0 1 S dX7_tonsThrough_46 rfl rfl ?_
    refine J_getR S 7 4 (S + 1) dX7_tonsThrough_47 fl_7_9 (layc_St_0 hS) rfl (lt_St_0 hS hn) (rf_St_0_4 hS) ?_
    refine J_iload_n 3 3 x1 dX7_tonsThrough_50 rfl rfl ?_
    refine J_iald (S + 1) 8 dX7_tonsThrough_51 (lay_St_1 hS) (lt_St_1 hS hn) (fun x8 => ?_)
    refine J_callSNP 2 "WhichHold" [.int x7, .int x8] dX7_tonsThrough_52 mv_X8_heightIn mv_X8_heightIns lk_7_105 (ct_X8_heightIn F hn P D T m x7 x8) rfl ⟨by decide, by decide⟩ (Nat.le_of_ble_eq_true rfl) (fun x9 => ?_)
    refine J_aload_n 1 2 Q dX7_tonsThrough_55 rfl rfl ?_
    refine J_getR Q 1 4 (Q + 1) dX7_tonsThrough_56 fl_7_102 (layc_Pl_0 hQ) rfl (lt_Pl_0 hQ hn) (rf_Pl_0_4 hQ) ?_
    refine J_iload_n 3 3 x1 dX7_tonsThrough_59 rfl rfl ?_
    refine J_iald (Q + 1) 8 dX7_tonsThrough_60 (lay_Pl_1 hQ) (lt_Pl_1 hQ hn) (fun x11 => ?_)
    refine J_aload_n 0 1 S dX7_tonsThrough_61 rfl rfl ?_
    refine J_getR S 7 4 (S + 1) dX7_tonsThrough_62 fl_7_9 (layc_St_0 hS) rfl (lt_St_0 hS hn) (rf_St_0_4 hS) ?_
    refine J_iload_n 3 3 x1 dX7_tonsThrough_65 rfl rfl ?_
    refine J_iald (S + 1) 8 dX7_tonsThrough_66 (lay_St_1 hS) (lt_St_1 hS hn) (fun x12 => ?_)
    refine J_isub dX7_tonsThrough_67 ?_
    refine J_callSNP 3 "WhichHold" [.int y3, .int x9, .int (x11 - x12)] dX7_tonsThrough_68 mv_X8_tonsIn mv_X8_tonsIns lk_7_109 (ct_X8_tonsIn F hn P D T m y3 x9 (x11 - x12)) rfl ⟨by decide, by decide⟩ (Nat.le_of_ble_eq_true rfl) (fun x13 => ?_)
    exact J_iretP dX7_tonsThrough_71 rfl rfl
  · refine J_icmp_ne 30 dX7_tonsThrough_14 (by decide) ?_ ?_
    · refine J_aload_n 1 2 Q dX7_tonsThrough_30 rfl rfl ?_
      refine J_getR Q 1 15 (Q + 12) dX7_tonsThrough_31 fl_7_99 (layc_Pl_0 hQ) rfl (lt_Pl_0 hQ hn) (rf_Pl_0_15 hQ) ?_
      refine J_iload_n 2 3 a2 dX7_tonsThrough_34 rfl rfl ?_
      refine J_iald (Q + 12) 4 dX7_tonsThrough_35 (lay_Pl_12 hQ) (lt_Pl_12 hQ hn) (fun x4 => ?_)
      exact J_lv [1, 2, 0] rfl (hEy3 x4)
    · refine J_aload_n 1 2 Q dX7_tonsThrough_17 rfl rfl ?_
      refine J_getR Q 1 15 (Q + 12) dX7_tonsThrough_18 fl_7_99 (layc_Pl_0 hQ) rfl (lt_Pl_0 hQ hn) (rf_Pl_0_15 hQ) ?_
      refine J_iload_n 2 3 a2 dX7_tonsThrough_21 rfl rfl ?_
      refine J_iald (Q + 12) 4 dX7_tonsThrough_22 (lay_Pl_12 hQ) (lt_Pl_12 hQ hn) (fun x5 => ?_)
      refine J_iconst 1 dX7_tonsThrough_23 (by decide) ?_
      refine J_iadd dX7_tonsThrough_24 ?_
      refine J_iconst 2 dX7_tonsThrough_25 (by decide) ?_
      refine J_idiv dX7_tonsThrough_26 (fun x6 => ?_)
      refine J_goto 36 dX7_tonsThrough_27 (by decide) ?_
      exact J_lv [1, 2, 0] rfl (hEy3 x6)
def b_X7_comeThroughHoles_2 (S : Nat) (Q : Nat) (t1 : Int32 × Mm) : Option ((Int32 × Mm) ⊕ (Mm)) :=
  if (t1.2 Q 2) ≤ t1.1 then (some (Sum.inr t1.2)) else ((ald t1.2 (Q + 11) 4 t1.1).bind fun x3 => (ald t1.2 (S + 1) 8 x3).bind fun x4 => (f_X7_tonsThrough t1.2 S Q t1.1).bind fun x5 => (ast t1.2 (S + 1) 8 x3 (x4 + x5)).bind fun m7 => some (Sum.inl (t1.1 + 1, m7)))
def f_X7_comeThroughHoles (F : Nat) (m : Mm) (S : Nat) (Q : Nat) : Option (Mm) :=
  (iter F (b_X7_comeThroughHoles_2 S Q) ((0, m) : Int32 × Mm)).bind (fun e2 : Mm => some e2)
set_option maxHeartbeats 4000000 in
set_option maxRecDepth 100000 in
theorem ct_X7_comeThroughHoles (F : Nat) {n : Nat} (hn : 113 ≤ n) (P D : Nat) (T : Option Nat) (m : Mm) (S : Nat) (hS : isSt S) (Q : Nat) (hQ : isPl Q) : Ct yX7_comeThroughHoles cX7_comeThroughHoles 3 none 2 47 [.ref S, .ref Q] n n m (RF P D T) (rV (RF P D T) (f_X7_comeThroughHoles F m S Q)) := by
  refine Ct.ofV (own := RX7) (nm := "comeThroughHoles") [(0, .ref S), (1, .ref Q)] (by decide) (Nat.le_of_ble_eq_true rfl) rfl rfl rfl ?_
  unfold f_X7_comeThroughHoles
  refine J_iconst 0 dX7_comeThroughHoles_0 (by decide) ?_
  refine J_istore_n 2 [(2, .int 0), (0, .ref S), (1, .ref Q)] dX7_comeThroughHoles_1 rfl (by decide) rfl ?_
  refine J_lv [1, 2, 0] rfl ?_
  refine J_loop (pc := 2) (fun t1 : Int32 × Mm => [(0, .ref S), (1, .ref Q), (2, .int t1.1)]) (fun t1 => t1.2) (fun _ => 36) (fun e2 => []) (fun _ => []) (fun e2 => e2) ?_ (fun t1 k1 hBt1 hXt1 => ?_) F ((0, m))
  · refine fun e2 => ?_
    exact J_vretV dX7_comeThroughHoles_36 rfl rfl
  · unfold b_X7_comeThroughHoles_2
    refine J_iload_n 2 2 t1.1 dX7_comeThroughHoles_2 rfl rfl ?_
    refine J_aload_n 1 1 Q dX7_comeThroughHoles_3 rfl rfl ?_
    refine J_getI Q 1 2 dX7_comeThroughHoles_4 fl_7_196 (layc_Pl_0 hQ) rfl (lt_Pl_0 hQ hn) ?_
    refine J_icmp_ge 36 dX7_comeThroughHoles_7 (by decide) ?_ ?_
    · exact J_lv [] rfl (hXt1 t1.2)
    · refine J_aload_n 0 0 S dX7_comeThroughHoles_10 rfl rfl ?_
      refine J_getR S 7 4 (S + 1) dX7_comeThroughHoles_11 fl_7_9 (layc_St_0 hS) rfl (lt_St_0 hS hn) (rf_St_0_4 hS) ?_
      refine J_aload_n 1 1 Q dX7_comeThroughHoles_14 rfl rfl ?_
      refine J_getR Q 1 14 (Q + 11) dX7_comeThroughHoles_15 fl_7_96 (layc_Pl_0 hQ) rfl (lt_Pl_0 hQ hn) (rf_Pl_0_14 hQ) ?_
      refine J_iload_n 2 2 t1.1 dX7_comeThroughHoles_18 rfl rfl ?_
      refine J_iald (Q + 11) 4 dX7_comeThroughHoles_19 (lay_Pl_11 hQ) (lt_Pl_11 hQ hn) (fun x3 => ?_)
      refine J_dup2 dX7_comeThroughHoles_20 rfl rfl ?_
      refine J_iald (S + 1) 8 dX7_comeThroughHoles_21 (lay_St_1 hS) (lt_St_1 hS hn) (fun x4 => ?_)
      refine J_aload_n 0 0 S dX7_comeThroughHoles_22 rfl rfl ?_
      refine J_aload_n 1 1 Q dX7_comeThroughHoles_23 rfl rfl ?_
      refine J_iload_n 2 2 t1.1 dX7_comeThroughHoles_24 rfl rfl ?_
      refine J_callVP S 7 2 [.ref Q, .int t1.1] dX7_comeThroughHoles_25 mv_X7_tonsThrough mv_X7_tonsThroughv lk_7_199 (ct_X7_tonsThrough F hn P D T t1.2 S hS Q hQ t1.1) rfl (layc_St_0 hS) (by decide) rfl (lt_St_0 hS hn) ⟨by decide, by decide⟩ (Nat.le_of_ble_eq_true rfl) (fun x5 => ?_)
      refine J_iadd dX7_comeThroughHoles_28 ?_
      refine J_iast (S + 1) 8 dX7_comeThroughHoles_29 (lay_St_1 hS) (lt_St_1 hS hn) (fun m7 => ?_)
      refine J_iinc 2 2 [(2, .int (t1.1 + 1)), (0, .ref S), (1, .ref Q)] t1.1 (t1.1 + 1) dX7_comeThroughHoles_30 rfl rfl (by decide) rfl ?_
      refine J_goto 2 dX7_comeThroughHoles_33 (by decide) ?_
      exact J_lv [1, 2, 0] rfl (hBt1 (t1.1 + 1, m7))
def b_X7_comeThroughValves_2 (S : Nat) (Q : Nat) (t1 : Int32 × Mm) : Option ((Int32 × Mm) ⊕ (Mm)) :=
  if (t1.2 Q 0) ≤ t1.1 then (some (Sum.inr t1.2)) else ((ald t1.2 (S + 2) 8 t1.1).bind fun x3 => (if x3 = (1 : Int32) then ((ald t1.2 (Q + 1) 8 t1.1).bind fun x5 => (ald t1.2 (S + 1) 8 t1.1).bind fun x6 => (ast t1.2 (S + 1) 8 t1.1 (imin x5 (x6 + (5 : Int32)))).bind fun m7 => some m7) else (some t1.2) : Option (Mm)).bind fun y4 => some (Sum.inl (t1.1 + 1, y4)))
def f_X7_comeThroughValves (F : Nat) (m : Mm) (S : Nat) (Q : Nat) : Option (Mm) :=
  (iter F (b_X7_comeThroughValves_2 S Q) ((0, m) : Int32 × Mm)).bind (fun e2 : Mm => some e2)
set_option maxHeartbeats 4000000 in
set_option maxRecDepth 100000 in
theorem ct_X7_comeThroughValves (F : Nat) {n : Nat} (hn : 113 ≤ n) (P D : Nat) (T : Option Nat) (m : Mm) (S : Nat) (hS : isSt S) (Q : Nat) (hQ : isPl Q) : Ct yX7_comeThroughValves cX7_comeThroughValves 3 none 1 21 [.ref S, .ref Q] n n m (RF P D T) (rV (RF P D T) (f_X7_comeThroughValves F m S Q)) := by
  refine Ct.ofV (own := RX7) (nm := "comeThroughValves") [(0, .ref S), (1, .ref Q)] (by decide) (Nat.le_of_ble_eq_true rfl) rfl rfl rfl ?_
  unfold f_X7_comeThroughValves
  refine J_iconst 0 dX7_comeThroughValves_0 (by decide) ?_
  refine J_istore_n 2 [(2, .int 0), (0, .ref S), (1, .ref Q)] dX7_comeThroughValves_1 rfl (by decide) rfl ?_
  refine J_lv [1, 2, 0] rfl ?_
  refine J_loop (pc := 2) (fun t1 : Int32 × Mm => [(0, .ref S), (1, .ref Q), (2, .int t1.1)]) (fun t1 => t1.2) (fun _ => 49) (fun e2 => []) (fun _ => []) (fun e2 => e2) ?_ (fun t1 k1 hBt1 hXt1 => ?_) F ((0, m))
  · refine fun e2 => ?_
    exact J_vretV dX7_comeThroughValves_49 rfl rfl
  · unfold b_X7_comeThroughValves_2
    refine J_iload_n 2 2 t1.1 dX7_comeThroughValves_2 rfl rfl ?_
    refine J_aload_n 1 1 Q dX7_comeThroughValves_3 rfl rfl ?_
    refine J_getI Q 1 0 dX7_comeThroughValves_4 fl_7_203 (layc_Pl_0 hQ) rfl (lt_Pl_0 hQ hn) ?_
    refine J_icmp_ge 49 dX7_comeThroughValves_7 (by decide) ?_ ?_
    · exact J_lv [] rfl (hXt1 t1.2)
    · refine J_aload_n 0 0 S dX7_comeThroughValves_10 rfl rfl ?_
      refine J_getR S 7 5 (S + 2) dX7_comeThroughValves_11 fl_7_15 (layc_St_0 hS) rfl (lt_St_0 hS hn) (rf_St_0_5 hS) ?_
      refine J_iload_n 2 2 t1.1 dX7_comeThroughValves_14 rfl rfl ?_
      refine J_iald (S + 2) 8 dX7_comeThroughValves_15 (lay_St_2 hS) (lt_St_2 hS hn) (fun x3 => ?_)
      refine J_iconst 1 dX7_comeThroughValves_16 (by decide) ?_
      refine J_seqJ 43 (fun y4 : Mm => [(0, .ref S), (1, .ref Q), (2, .int t1.1)]) (fun y4 => []) (fun y4 => y4) (fun y4 => ?_) (fun k1 hEy4 => ?_)
      · refine J_iinc 2 2 [(2, .int (t1.1 + 1)), (0, .ref S), (1, .ref Q)] t1.1 (t1.1 + 1) dX7_comeThroughValves_43 rfl rfl (by decide) rfl ?_
        refine J_goto 2 dX7_comeThroughValves_46 (by decide) ?_
        exact J_lv [1, 2, 0] rfl (hBt1 (t1.1 + 1, y4))
      · refine J_icmp_ne 43 dX7_comeThroughValves_17 (by decide) ?_ ?_
        · exact J_lv [0, 1, 2] rfl (hEy4 t1.2)
        · refine J_aload_n 0 0 S dX7_comeThroughValves_20 rfl rfl ?_
          refine J_getR S 7 4 (S + 1) dX7_comeThroughValves_21 fl_7_9 (layc_St_0 hS) rfl (lt_St_0 hS hn) (rf_St_0_4 hS) ?_
          refine J_iload_n 2 2 t1.1 dX7_comeThroughValves_24 rfl rfl ?_
          refine J_aload_n 1 1 Q dX7_comeThroughValves_25 rfl rfl ?_
          refine J_getR Q 1 4 (Q + 1) dX7_comeThroughValves_26 fl_7_102 (layc_Pl_0 hQ) rfl (lt_Pl_0 hQ hn) (rf_Pl_0_4 hQ) ?_
          refine J_iload_n 2 2 t1.1 dX7_comeThroughValves_29 rfl rfl ?_
          refine J_iald (Q + 1) 8 dX7_comeThroughValves_30 (lay_Pl_1 hQ) (lt_Pl_1 hQ hn) (fun x5 => ?_)
          refine J_aload_n 0 0 S dX7_comeThroughValves_31 rfl rfl ?_
          refine J_getR S 7 4 (S + 1) dX7_comeThroughValves_32 fl_7_9 (layc_St_0 hS) rfl (lt_St_0 hS hn) (rf_St_0_4 hS) ?_
          refine J_iload_n 2 2 t1.1 dX7_comeThroughValves_35 rfl rfl ?_
          refine J_iald (S + 1) 8 dX7_comeThroughValves_36 (lay_St_1 hS) (lt_St_1 hS hn) (fun x6 => ?_)
          refine J_iconst 5 dX7_comeThroughValves_37 (by decide) ?_
          refine J_iadd dX7_comeThroughValves_38 ?_
          refine J_mmin dX7_comeThroughValves_39 lk_7_206 (by decide) (Nat.le_of_ble_eq_true rfl) ?_
          refine J_iast (S + 1) 8 dX7_comeThroughValves_42 (lay_St_1 hS) (lt_St_1 hS hn) (fun m7 => ?_)
          exact J_lv [0, 1, 2] rfl (hEy4 m7)
def f_X7_takePlace (m : Mm) (S : Nat) (a1 : Int32) (a2 : Int32) (a3 : Int32) : Option (Mm) :=
  if a1 = 0 then ((ast m (S + 3) 10 a2 0).bind fun m1 => some m1) else (if a1 = 1 then ((ast m (S + 3) 10 a2 1).bind fun m2 => some m2) else (if a1 = 2 then ((ast m (S + 4) 4 a2 1).bind fun m3 => some m3) else (if a1 = 3 then ((ast m (S + 5) 3 a2 a3).bind fun m4 => some m4) else ((ast m (S + 2) 8 a2 a3).bind fun m5 => some m5))))
set_option maxHeartbeats 4000000 in
set_option maxRecDepth 100000 in
theorem ct_X7_takePlace (F : Nat) {n : Nat} (hn : 113 ≤ n) (P D : Nat) (T : Option Nat) (m : Mm) (S : Nat) (hS : isSt S) (a1 : Int32) (a2 : Int32) (a3 : Int32) : Ct yX7_takePlace cX7_takePlace 4 none 0 0 [.ref S, .int a1, .int a2, .int a3] n n m (RF P D T) (rV (RF P D T) (f_X7_takePlace m S a1 a2 a3)) := by
  refine Ct.ofV (own := RX7) (nm := "takePlace") [(0, .ref S), (1, .int a1), (2, .int a2), (3, .int a3)] (by decide) (Nat.le_of_ble_eq_true rfl) rfl rfl rfl ?_
  unfold f_X7_takePlace
  refine J_iload_n 1 1 a1 dX7_takePlace_0 rfl rfl ?_
  refine J_split (c1 := 0) (fun hs1_0 => ?_) (fun hs1_0 => ?_)
  · refine J_tsIn 32 hs1_0 dX7_takePlace_1 (by decide) (by decide) rfl (by decide) ?_
    refine J_aload_n 0 0 S dX7_takePlace_32 rfl rfl ?_
    refine J_getR S 7 6 (S + 3) dX7_takePlace_33 fl_7_18 (layc_St_0 hS) rfl (lt_St_0 hS hn) (rf_St_0_6 hS) ?_
    refine J_iload_n 2 2 a2 dX7_takePlace_36 rfl rfl ?_
    refine J_iconst 0 dX7_takePlace_37 (by decide) ?_
    refine J_iast (S + 3) 10 dX7_takePlace_38 (lay_St_3 hS) (lt_St_3 hS hn) (fun m1 => ?_)
    refine J_goto 79 dX7_takePlace_39 (by decide) ?_
    exact J_vretV dX7_takePlace_79 rfl rfl
  · refine J_split (c1 := 1) (fun hs1_1 => ?_) (fun hs1_1 => ?_)
    · refine J_tsIn 42 hs1_1 dX7_takePlace_1 (by decide) (by decide) rfl (by decide) ?_
      refine J_aload_n 0 0 S dX7_takePlace_42 rfl rfl ?_
      refine J_getR S 7 6 (S + 3) dX7_takePlace_43 fl_7_18 (layc_St_0 hS) rfl (lt_St_0 hS hn) (rf_St_0_6 hS) ?_
      refine J_iload_n 2 2 a2 dX7_takePlace_46 rfl rfl ?_
      refine J_iconst 1 dX7_takePlace_47 (by decide) ?_
      refine J_iast (S + 3) 10 dX7_takePlace_48 (lay_St_3 hS) (lt_St_3 hS hn) (fun m2 => ?_)
      refine J_goto 79 dX7_takePlace_49 (by decide) ?_
      exact J_vretV dX7_takePlace_79 rfl rfl
    · refine J_split (c1 := 2) (fun hs1_2 => ?_) (fun hs1_2 => ?_)
      · refine J_tsIn 52 hs1_2 dX7_takePlace_1 (by decide) (by decide) rfl (by decide) ?_
        refine J_aload_n 0 0 S dX7_takePlace_52 rfl rfl ?_
        refine J_getR S 7 7 (S + 4) dX7_takePlace_53 fl_7_21 (layc_St_0 hS) rfl (lt_St_0 hS hn) (rf_St_0_7 hS) ?_
        refine J_iload_n 2 2 a2 dX7_takePlace_56 rfl rfl ?_
        refine J_iconst 1 dX7_takePlace_57 (by decide) ?_
        refine J_iast (S + 4) 4 dX7_takePlace_58 (lay_St_4 hS) (lt_St_4 hS hn) (fun m3 => ?_)
        refine J_goto 79 dX7_takePlace_59 (by decide) ?_
        exact J_vretV dX7_takePlace_79 rfl rfl
      · refine J_split (c1 := 3) (fun hs1_3 => ?_) (fun hs1_3 => ?_)
        · refine J_tsIn 62 hs1_3 dX7_takePlace_1 (by decide) (by decide) rfl (by decide) ?_
          refine J_aload_n 0 0 S dX7_takePlace_62 rfl rfl ?_
          refine J_getR S 7 8 (S + 5) dX7_takePlace_63 fl_7_24 (layc_St_0 hS) rfl (lt_St_0 hS hn) (rf_St_0_8 hS) ?_
          refine J_iload_n 2 2 a2 dX7_takePlace_66 rfl rfl ?_
          refine J_iload_n 3 3 a3 dX7_takePlace_67 rfl rfl ?_
          refine J_iast (S + 5) 3 dX7_takePlace_68 (lay_St_5 hS) (lt_St_5 hS hn) (fun m4 => ?_)
          refine J_goto 79 dX7_takePlace_69 (by decide) ?_
          exact J_vretV dX7_takePlace_79 rfl rfl
        · refine J_tsOut 72 dX7_takePlace_1 (ts_out [0, 1, 2, 3] (by decide) (by simp only [List.mem_cons, List.not_mem_nil, or_false, forall_eq_or_imp, forall_eq]; exact ⟨hs1_0, hs1_1, hs1_2, hs1_3⟩)) (by decide) ?_
          refine J_aload_n 0 0 S dX7_takePlace_72 rfl rfl ?_
          refine J_getR S 7 5 (S + 2) dX7_takePlace_73 fl_7_15 (layc_St_0 hS) rfl (lt_St_0 hS hn) (rf_St_0_5 hS) ?_
          refine J_iload_n 2 2 a2 dX7_takePlace_76 rfl rfl ?_
          refine J_iload_n 3 3 a3 dX7_takePlace_77 rfl rfl ?_
          refine J_iast (S + 2) 8 dX7_takePlace_78 (lay_St_2 hS) (lt_St_2 hS hn) (fun m5 => ?_)
          exact J_vretV dX7_takePlace_79 rfl rfl
def b_X7_endOrders_2 (S : Nat) (t1 : Int32 × Mm) : Option ((Int32 × Mm) ⊕ (Mm)) :=
  if (t1.2 (S + 6) 0) ≤ t1.1 then (some (Sum.inr t1.2)) else ((ald t1.2 (S + 11) 12 t1.1).bind fun x3 => (if x3 = (1 : Int32) then ((ald t1.2 (S + 12) 12 t1.1).bind fun x5 => if x5 = (t1.2 S 0) then ((ast t1.2 (S + 11) 12 t1.1 2).bind fun m6 => (ald m6 (S + 8) 12 t1.1).bind fun x7 => (ald m6 (S + 9) 12 t1.1).bind fun x8 => (ald m6 (S + 10) 12 t1.1).bind fun x9 => (f_X7_takePlace m6 S x7 x8 x9).bind fun m11 => some m11) else (some t1.2)) else (some t1.2) : Option (Mm)).bind fun y4 => some (Sum.inl (t1.1 + 1, y4)))
def f_X7_endOrders (F : Nat) (m : Mm) (S : Nat) : Option (Mm) :=
  (iter F (b_X7_endOrders_2 S) ((0, m) : Int32 × Mm)).bind (fun e2 : Mm => some e2)
set_option maxHeartbeats 4000000 in
set_option maxRecDepth 100000 in
theorem ct_X7_endOrders (F : Nat) {n : Nat} (hn : 113 ≤ n) (P D : Nat) (T : Option Nat) (m : Mm) (S : Nat) (hS : isSt S) : Ct yX7_endOrders cX7_endOrders 2 none 1 23 [.ref S] n n m (RF P D T) (rV (RF P D T) (f_X7_endOrders F m S)) := by
  refine Ct.ofV (own := RX7) (nm := "endOrders") [(0, .ref S)] (by decide) (Nat.le_of_ble_eq_true rfl) rfl rfl rfl ?_
  unfold f_X7_endOrders
  refine J_iconst 0 dX7_endOrders_0 (by decide) ?_
  refine J_istore_n 1 [(1, .int 0), (0, .ref S)] dX7_endOrders_1 rfl (by decide) rfl ?_
  refine J_lv [1, 0] rfl ?_
  refine J_loop (pc := 2) (fun t1 : Int32 × Mm => [(0, .ref S), (1, .int t1.1)]) (fun t1 => t1.2) (fun _ => 89) (fun e2 => []) (fun _ => []) (fun e2 => e2) ?_ (fun t1 k1 hBt1 hXt1 => ?_) F ((0, m))
  · refine fun e2 => ?_
    exact J_vretV dX7_endOrders_89 rfl rfl
  · unfold b_X7_endOrders_2
    refine J_iload_n 1 1 t1.1 dX7_endOrders_2 rfl rfl ?_
    refine J_aload_n 0 0 S dX7_endOrders_3 rfl rfl ?_
    refine J_getR S 7 9 (S + 6) dX7_endOrders_4 fl_7_30 (layc_St_0 hS) rfl (lt_St_0 hS hn) (rf_St_0_9 hS) ?_
    refine J_getI (S + 6) 0 0 dX7_endOrders_7 fl_7_68 (layc_St_6 hS) rfl (lt_St_6 hS hn) ?_
    refine J_icmp_ge 89 dX7_endOrders_10 (by decide) ?_ ?_
    · exact J_lv [] rfl (hXt1 t1.2)
    · refine J_aload_n 0 0 S dX7_endOrders_13 rfl rfl ?_
      refine J_getR S 7 9 (S + 6) dX7_endOrders_14 fl_7_30 (layc_St_0 hS) rfl (lt_St_0 hS hn) (rf_St_0_9 hS) ?_
      refine J_getR (S + 6) 0 5 (S + 11) dX7_endOrders_17 fl_7_153 (layc_St_6 hS) rfl (lt_St_6 hS hn) (rf_St_6_5 hS) ?_
      refine J_iload_n 1 1 t1.1 dX7_endOrders_20 rfl rfl ?_
      refine J_iald (S + 11) 12 dX7_endOrders_21 (lay_St_11 hS) (lt_St_11 hS hn) (fun x3 => ?_)
      refine J_iconst 1 dX7_endOrders_22 (by decide) ?_
      refine J_seqJ 83 (fun y4 : Mm => [(0, .ref S), (1, .int t1.1)]) (fun y4 => []) (fun y4 => y4) (fun y4 => ?_) (fun k1 hEy4 => ?_)
      · refine J_iinc 1 1 [(1, .int (t1.1 + 1)), (0, .ref S)] t1.1 (t1.1 + 1) dX7_endOrders_83 rfl rfl (by decide) rfl ?_
        refine J_goto 2 dX7_endOrders_86 (by decide) ?_
        exact J_lv [1, 0] rfl (hBt1 (t1.1 + 1, y4))
      · refine J_icmp_ne 83 dX7_endOrders_23 (by decide) ?_ ?_
        · exact J_lv [0, 1] rfl (hEy4 t1.2)
        · refine J_aload_n 0 0 S dX7_endOrders_26 rfl rfl ?_
          refine J_getR S 7 9 (S + 6) dX7_endOrders_27 fl_7_30 (layc_St_0 hS) rfl (lt_St_0 hS hn) (rf_St_0_9 hS) ?_
          refine J_getR (S + 6) 0 6 (S + 12) dX7_endOrders_30 fl_7_156 (layc_St_6 hS) rfl (lt_St_6 hS hn) (rf_St_6_6 hS) ?_
          refine J_iload_n 1 1 t1.1 dX7_endOrders_33 rfl rfl ?_
          refine J_iald (S + 12) 12 dX7_endOrders_34 (lay_St_12 hS) (lt_St_12 hS hn) (fun x5 => ?_)
          refine J_aload_n 0 0 S dX7_endOrders_35 rfl rfl ?_
          refine J_getI S 7 0 dX7_endOrders_36 fl_7_41 (layc_St_0 hS) rfl (lt_St_0 hS hn) ?_
          refine J_icmp_ne 83 dX7_endOrders_39 (by decide) ?_ ?_
          · exact J_lv [0, 1] rfl (hEy4 t1.2)
          · refine J_aload_n 0 0 S dX7_endOrders_42 rfl rfl ?_
            refine J_getR S 7 9 (S + 6) dX7_endOrders_43 fl_7_30 (layc_St_0 hS) rfl (lt_St_0 hS hn) (rf_St_0_9 hS) ?_
            refine J_getR (S + 6) 0 5 (S + 11) dX7_endOrders_46 fl_7_153 (layc_St_6 hS) rfl (lt_St_6 hS hn) (rf_St_6_5 hS) ?_
            refine J_iload_n 1 1 t1.1 dX7_endOrders_49 rfl rfl ?_
            refine J_iconst 2 dX7_endOrders_50 (by decide) ?_
            refine J_iast (S + 11) 12 dX7_endOrders_51 (lay_St_11 hS) (lt_St_11 hS hn) (fun m6 => ?_)
            refine J_aload_n 0 0 S dX7_endOrders_52 rfl rfl ?_
            refine J_aload_n 0 0 S dX7_endOrders_53 rfl rfl ?_
            refine J_getR S 7 9 (S + 6) dX7_endOrders_54 fl_7_30 (layc_St_0 hS) rfl (lt_St_0 hS hn) (rf_St_0_9 hS) ?_
            refine J_getR (S + 6) 0 2 (S + 8) dX7_endOrders_57 fl_7_159 (layc_St_6 hS) rfl (lt_St_6 hS hn) (rf_St_6_2 hS) ?_
            refine J_iload_n 1 1 t1.1 dX7_endOrders_60 rfl rfl ?_
            refine J_iald (S + 8) 12 dX7_endOrders_61 (lay_St_8 hS) (lt_St_8 hS hn) (fun x7 => ?_)
            refine J_aload_n 0 0 S dX7_endOrders_62 rfl rfl ?_
            refine J_getR S 7 9 (S + 6) dX7_endOrders_63 fl_7_30 (layc_St_0 hS) rfl (lt_St_0 hS hn) (rf_St_0_9 hS) ?_
            refine J_getR (S + 6) 0 3 (S + 9) dX7_endOrders_66 fl_7_162 (layc_St_6 hS) rfl (lt_St_6 hS hn) (rf_St_6_3 hS) ?_
            refine J_iload_n 1 1 t1.1 dX7_endOrders_69 rfl rfl ?_
            refine J_iald (S + 9) 12 dX7_endOrders_70 (lay_St_9 hS) (lt_St_9 hS hn) (fun x8 => ?_)
            refine J_aload_n 0 0 S dX7_endOrders_71 rfl rfl ?_
            refine J_getR S 7 9 (S + 6) dX7_endOrders_72 fl_7_30 (layc_St_0 hS) rfl (lt_St_0 hS hn) (rf_St_0_9 hS) ?_
            refine J_getR (S + 6) 0 4 (S + 10) dX7_endOrders_75 fl_7_165 (layc_St_6 hS) rfl (lt_St_6 hS hn) (rf_St_6_4 hS) ?_
            refine J_iload_n 1 1 t1.1 dX7_endOrders_78 rfl rfl ?_
            refine J_iald (S + 10) 12 dX7_endOrders_79 (lay_St_10 hS) (lt_St_10 hS hn) (fun x9 => ?_)
            refine J_callVV S 7 3 [.int x7, .int x8, .int x9] dX7_endOrders_80 mv_X7_takePlace mv_X7_takePlacev lk_7_168 (ct_X7_takePlace F hn P D T m6 S hS x7 x8 x9) rfl (layc_St_0 hS) (by decide) rfl (lt_St_0 hS hn) ⟨by decide, by decide⟩ (Nat.le_of_ble_eq_true rfl) (fun m11 => ?_)
            exact J_lv [0, 1] rfl (hEy4 m11)
def b_X7_flowThroughDoor_28 (S : Nat) (Q : Nat) (a2 : Int32) (x2 : Int32) (x3 : Int32) (t4 : Int32 × Mm) : Option ((Int32 × Mm) ⊕ ((Mm) ⊕ (Mm))) :=
  (ald t4.2 (Q + 8) 10 a2).bind fun x7 => if x7 ≤ t4.1 then (some (Sum.inr (Sum.inr (t4.2)))) else ((ald t4.2 (Q + 1) 8 x2).bind fun x8 => (ald t4.2 (S + 1) 8 x2).bind fun x9 => (f_X8_heightIn x8 x9).bind fun x10 => (ald t4.2 (Q + 1) 8 x3).bind fun x12 => (ald t4.2 (S + 1) 8 x3).bind fun x13 => (f_X8_heightIn x12 x13).bind fun x14 => if x10 = x14 then (some (Sum.inr (Sum.inl t4.2))) else ((ald t4.2 (Q + 7) 10 a2).bind fun x16 => if x16 < (imax x10 x14) then ((if x10 ≤ x14 then (some (-1)) else (some 1) : Option (Int32)).bind fun y17 => (ald t4.2 (S + 1) 8 x2).bind fun x18 => (ast t4.2 (S + 1) 8 x2 (x18 - y17)).bind fun m19 => (ald m19 (S + 1) 8 x3).bind fun x20 => (ast m19 (S + 1) 8 x3 (x20 + y17)).bind fun m21 => some (Sum.inl (t4.1 + 1, m21))) else (some (Sum.inr (Sum.inl t4.2)))))
def f_X7_flowThroughDoor (F : Nat) (m : Mm) (S : Nat) (Q : Nat) (a2 : Int32) : Option (Mm) :=
  (ald m (S + 3) 10 a2).bind fun x1 => if x1 = 0 then (some m) else ((ald m (Q + 5) 10 a2).bind fun x2 => (ald m (Q + 6) 10 a2).bind fun x3 => (iter F (b_X7_flowThroughDoor_28 S Q a2 x2 x3) ((0, m) : Int32 × Mm)).bind (Sum.elim (fun e5 : Mm => some e5) (fun e6 : Mm => some e6)))
set_option maxHeartbeats 4000000 in
set_option maxRecDepth 100000 in
theorem ct_X7_flowThroughDoor (F : Nat) {n : Nat} (hn : 113 ≤ n) (P D : Nat) (T : Option Nat) (m : Mm) (S : Nat) (hS : isSt S) (Q : Nat) (hQ : isPl Q) (a2 : Int32) : Ct yX7_flowThroughDoor cX7_flowThroughDoor 9 none 1 21 [.ref S, .ref Q, .int a2] n n m (RF P D T) (rV (RF P D T) (f_X7_flowThroughDoor F m S Q a2)) := by
  refine Ct.ofV (own := RX7) (nm := "flowThroughDoor") [(0, .ref S), (1, .ref Q), (2, .int a2)] (by decide) (Nat.le_of_ble_eq_true rfl) rfl rfl rfl ?_
  unfold f_X7_flowThroughDoor
  refine J_aload_n 0 0 S dX7_flowThroughDoor_0 rfl rfl ?_
  refine J_getR S 7 6 (S + 3) dX7_flowThroughDoor_1 fl_7_18 (layc_St_0 hS) rfl (lt_St_0 hS hn) (rf_St_0_6 hS) ?_
  refine J_iload_n 2 2 a2 dX7_flowThroughDoor_4 rfl rfl ?_
  refine J_iald (S + 3) 10 dX7_flowThroughDoor_5 (lay_St_3 hS) (lt_St_3 hS hn) (fun x1 => ?_)
  refine J_if_ne 10 dX7_flowThroughDoor_6 (by decide) ?_ ?_
  · refine J_aload_n 1 1 Q dX7_flowThroughDoor_10 rfl rfl ?_
    refine J_getR Q 1 8 (Q + 5) dX7_flowThroughDoor_11 fl_7_209 (layc_Pl_0 hQ) rfl (lt_Pl_0 hQ hn) (rf_Pl_0_8 hQ) ?_
    refine J_iload_n 2 2 a2 dX7_flowThroughDoor_14 rfl rfl ?_
    refine J_iald (Q + 5) 10 dX7_flowThroughDoor_15 (lay_Pl_5 hQ) (lt_Pl_5 hQ hn) (fun x2 => ?_)
    refine J_istore_n 3 [(3, .int x2), (0, .ref S), (1, .ref Q), (2, .int a2)] dX7_flowThroughDoor_16 rfl (by decide) rfl ?_
    refine J_aload_n 1 2 Q dX7_flowThroughDoor_17 rfl rfl ?_
    refine J_getR Q 1 9 (Q + 6) dX7_flowThroughDoor_18 fl_7_212 (layc_Pl_0 hQ) rfl (lt_Pl_0 hQ hn) (rf_Pl_0_9 hQ) ?_
    refine J_iload_n 2 3 a2 dX7_flowThroughDoor_21 rfl rfl ?_
    refine J_iald (Q + 6) 10 dX7_flowThroughDoor_22 (lay_Pl_6 hQ) (lt_Pl_6 hQ hn) (fun x3 => ?_)
    refine J_istore 4 [(4, .int x3), (3, .int x2), (0, .ref S), (1, .ref Q), (2, .int a2)] dX7_flowThroughDoor_23 (by decide) rfl ?_
    refine J_iconst 0 dX7_flowThroughDoor_25 (by decide) ?_
    refine J_istore 5 [(5, .int 0), (4, .int x3), (3, .int x2), (0, .ref S), (1, .ref Q), (2, .int a2)] dX7_flowThroughDoor_26 (by decide) rfl ?_
    refine J_lv [3, 4, 5, 2, 1, 0] rfl ?_
    refine J_loop (pc := 28) (fun t4 : Int32 × Mm => [(0, .ref S), (1, .ref Q), (2, .int a2), (3, .int x2), (4, .int x3), (5, .int t4.1)]) (fun t4 => t4.2) (Sum.elim (fun _ => 98) (fun _ => 142)) (Sum.elim (fun e5 : Mm => []) (fun e6 : Mm => [])) (fun _ => []) (Sum.elim (fun e5 : Mm => e5) (fun e6 : Mm => e6)) ?_ (fun t4 k1 hBt4 hXt4 => ?_) F ((0, m))
    · refine sum_all ?_ ?_
      · intro e5
        dsimp only [Sum.elim_inl, Sum.elim_inr]
        exact J_vretV dX7_flowThroughDoor_98 rfl rfl
      · intro e6
        dsimp only [Sum.elim_inl, Sum.elim_inr]
        exact J_vretV dX7_flowThroughDoor_142 rfl rfl
    · unfold b_X7_flowThroughDoor_28
      refine J_iload 5 5 t4.1 dX7_flowThroughDoor_28 rfl ?_
      refine J_aload_n 1 1 Q dX7_flowThroughDoor_30 rfl rfl ?_
      refine J_getR Q 1 11 (Q + 8) dX7_flowThroughDoor_31 fl_7_215 (layc_Pl_0 hQ) rfl (lt_Pl_0 hQ hn) (rf_Pl_0_11 hQ) ?_
      refine J_iload_n 2 2 a2 dX7_flowThroughDoor_34 rfl rfl ?_
      refine J_iald (Q + 8) 10 dX7_flowThroughDoor_35 (lay_Pl_8 hQ) (lt_Pl_8 hQ hn) (fun x7 => ?_)
      refine J_icmp_ge 142 dX7_flowThroughDoor_36 (by decide) ?_ ?_
      · exact J_lv [] rfl (hXt4 (Sum.inr (t4.2)))
      · refine J_aload_n 1 1 Q dX7_flowThroughDoor_39 rfl rfl ?_
        refine J_getR Q 1 4 (Q + 1) dX7_flowThroughDoor_40 fl_7_102 (layc_Pl_0 hQ) rfl (lt_Pl_0 hQ hn) (rf_Pl_0_4 hQ) ?_
        refine J_iload_n 3 3 x2 dX7_flowThroughDoor_43 rfl rfl ?_
        refine J_iald (Q + 1) 8 dX7_flowThroughDoor_44 (lay_Pl_1 hQ) (lt_Pl_1 hQ hn) (fun x8 => ?_)
        refine J_aload_n 0 0 S dX7_flowThroughDoor_45 rfl rfl ?_
        refine J_getR S 7 4 (S + 1) dX7_flowThroughDoor_46 fl_7_9 (layc_St_0 hS) rfl (lt_St_0 hS hn) (rf_St_0_4 hS) ?_
        refine J_iload_n 3 3 x2 dX7_flowThroughDoor_49 rfl rfl ?_
        refine J_iald (S + 1) 8 dX7_flowThroughDoor_50 (lay_St_1 hS) (lt_St_1 hS hn) (fun x9 => ?_)
        refine J_callSNP 2 "WhichHold" [.int x8, .int x9] dX7_flowThroughDoor_51 mv_X8_heightIn mv_X8_heightIns lk_7_105 (ct_X8_heightIn F hn P D T t4.2 x8 x9) rfl ⟨by decide, by decide⟩ (Nat.le_of_ble_eq_true rfl) (fun x10 => ?_)
        refine J_istore 6 [(6, .int x10), (0, .ref S), (1, .ref Q), (2, .int a2), (3, .int x2), (4, .int x3), (5, .int t4.1)] dX7_flowThroughDoor_54 (by decide) rfl ?_
        refine J_aload_n 1 2 Q dX7_flowThroughDoor_56 rfl rfl ?_
        refine J_getR Q 1 4 (Q + 1) dX7_flowThroughDoor_57 fl_7_102 (layc_Pl_0 hQ) rfl (lt_Pl_0 hQ hn) (rf_Pl_0_4 hQ) ?_
        refine J_iload 4 5 x3 dX7_flowThroughDoor_60 rfl ?_
        refine J_iald (Q + 1) 8 dX7_flowThroughDoor_62 (lay_Pl_1 hQ) (lt_Pl_1 hQ hn) (fun x12 => ?_)
        refine J_aload_n 0 1 S dX7_flowThroughDoor_63 rfl rfl ?_
        refine J_getR S 7 4 (S + 1) dX7_flowThroughDoor_64 fl_7_9 (layc_St_0 hS) rfl (lt_St_0 hS hn) (rf_St_0_4 hS) ?_
        refine J_iload 4 5 x3 dX7_flowThroughDoor_67 rfl ?_
        refine J_iald (S + 1) 8 dX7_flowThroughDoor_69 (lay_St_1 hS) (lt_St_1 hS hn) (fun x13 => ?_)
        refine J_callSNP 2 "WhichHold" [.int x12, .int x13] dX7_flowThroughDoor_70 mv_X8_heightIn mv_X8_heightIns lk_7_105 (ct_X8_heightIn F hn P D T t4.2 x12 x13) rfl ⟨by decide, by decide⟩ (Nat.le_of_ble_eq_true rfl) (fun x14 => ?_)
        refine J_istore 7 [(7, .int x14), (6, .int x10), (0, .ref S), (1, .ref Q), (2, .int a2), (3, .int x2), (4, .int x3), (5, .int t4.1)] dX7_flowThroughDoor_73 (by decide) rfl ?_
        refine J_iload 6 1 x10 dX7_flowThroughDoor_75 rfl ?_
        refine J_iload 7 0 x14 dX7_flowThroughDoor_77 rfl ?_
        refine J_icmp_eq 98 dX7_flowThroughDoor_79 (by decide) ?_ ?_
        · exact J_lv [] rfl (hXt4 (Sum.inl t4.2))
        · refine J_iload 6 1 x10 dX7_flowThroughDoor_82 rfl ?_
          refine J_iload 7 0 x14 dX7_flowThroughDoor_84 rfl ?_
          refine J_mmax dX7_flowThroughDoor_86 lk_7_126 (by decide) (Nat.le_of_ble_eq_true rfl) ?_
          refine J_aload_n 1 3 Q dX7_flowThroughDoor_89 rfl rfl ?_
          refine J_getR Q 1 10 (Q + 7) dX7_flowThroughDoor_90 fl_7_218 (layc_Pl_0 hQ) rfl (lt_Pl_0 hQ hn) (rf_Pl_0_10 hQ) ?_
          refine J_iload_n 2 4 a2 dX7_flowThroughDoor_93 rfl rfl ?_
          refine J_iald (Q + 7) 10 dX7_flowThroughDoor_94 (lay_Pl_7 hQ) (lt_Pl_7 hQ hn) (fun x16 => ?_)
          refine J_icmp_gt 99 dX7_flowThroughDoor_95 (by decide) ?_ ?_
          · refine J_iload 6 1 x10 dX7_flowThroughDoor_99 rfl ?_
            refine J_iload 7 0 x14 dX7_flowThroughDoor_101 rfl ?_
            refine J_seqJ 111 (fun y17 : Int32 => [(0, .ref S), (1, .ref Q), (2, .int a2), (3, .int x2), (4, .int x3), (5, .int t4.1)]) (fun y17 => [.int y17]) (fun y17 => t4.2) (fun y17 => ?_) (fun k1 hEy17 => ?_)
            · refine J_istore 8 [(8, .int y17), (0, .ref S), (1, .ref Q), (2, .int a2), (3, .int x2), (4, .int x3), (5, .int t4.1)] dX7_flowThroughDoor_111 (by decide) rfl ?_
              refine J_aload_n 0 1 S dX7_flowThroughDoor_113 rfl rfl ?_
              refine J_getR S 7 4 (S + 1) dX7_flowThroughDoor_114 fl_7_9 (layc_St_0 hS) rfl (lt_St_0 hS hn) (rf_St_0_4 hS) ?_
              refine J_iload_n 3 4 x2 dX7_flowThroughDoor_117 rfl rfl ?_
              refine J_dup2 dX7_flowThroughDoor_118 rfl rfl ?_
              refine J_iald (S + 1) 8 dX7_flowThroughDoor_119 (lay_St_1 hS) (lt_St_1 hS hn) (fun x18 => ?_)
              refine J_iload 8 0 y17 dX7_flowThroughDoor_120 rfl ?_
              refine J_isub dX7_flowThroughDoor_122 ?_
              refine J_iast (S + 1) 8 dX7_flowThroughDoor_123 (lay_St_1 hS) (lt_St_1 hS hn) (fun m19 => ?_)
              refine J_aload_n 0 1 S dX7_flowThroughDoor_124 rfl rfl ?_
              refine J_getR S 7 4 (S + 1) dX7_flowThroughDoor_125 fl_7_9 (layc_St_0 hS) rfl (lt_St_0 hS hn) (rf_St_0_4 hS) ?_
              refine J_iload 4 5 x3 dX7_flowThroughDoor_128 rfl ?_
              refine J_dup2 dX7_flowThroughDoor_130 rfl rfl ?_
              refine J_iald (S + 1) 8 dX7_flowThroughDoor_131 (lay_St_1 hS) (lt_St_1 hS hn) (fun x20 => ?_)
              refine J_iload 8 0 y17 dX7_flowThroughDoor_132 rfl ?_
              refine J_iadd dX7_flowThroughDoor_134 ?_
              refine J_iast (S + 1) 8 dX7_flowThroughDoor_135 (lay_St_1 hS) (lt_St_1 hS hn) (fun m21 => ?_)
              refine J_iinc 5 6 [(5, .int (t4.1 + 1)), (8, .int y17), (0, .ref S), (1, .ref Q), (2, .int a2), (3, .int x2), (4, .int x3)] t4.1 (t4.1 + 1) dX7_flowThroughDoor_136 rfl rfl (by decide) rfl ?_
              refine J_goto 28 dX7_flowThroughDoor_139 (by decide) ?_
              exact J_lv [2, 3, 4, 5, 6, 0] rfl (hBt4 (t4.1 + 1, m21))
            · refine J_icmp_le 110 dX7_flowThroughDoor_103 (by decide) ?_ ?_
              · refine J_iconst (-1) dX7_flowThroughDoor_110 (by decide) ?_
                exact J_lv [2, 3, 4, 5, 6, 7] rfl (hEy17 (-1))
              · refine J_iconst 1 dX7_flowThroughDoor_106 (by decide) ?_
                refine J_goto 111 dX7_flowThroughDoor_107 (by decide) ?_
                exact J_lv [2, 3, 4, 5, 6, 7] rfl (hEy17 1)
          · exact J_lv [] rfl (hXt4 (Sum.inl t4.2))
  · exact J_vretV dX7_flowThroughDoor_9 rfl rfl

theorem fl_0_15 : FL RX0 15 0 2 := ⟨by decide, by decide, tb 88 (by decide +kernel) rfl⟩
theorem fl_0_18 : FL RX0 18 0 3 := ⟨by decide, by decide, tb 91 (by decide +kernel) rfl⟩
theorem fl_0_21 : FL RX0 21 0 4 := ⟨by decide, by decide, tb 94 (by decide +kernel) rfl⟩
theorem fl_0_24 : FL RX0 24 0 5 := ⟨by decide, by decide, tb 97 (by decide +kernel) rfl⟩
theorem fl_0_27 : FL RX0 27 0 6 := ⟨by decide, by decide, tb 100 (by decide +kernel) rfl⟩
theorem fl_0_30 : FL RX0 30 0 0 := ⟨by decide, by decide, tb 82 (by decide +kernel) rfl⟩
theorem fl_0_9 : FL RX0 9 0 1 := ⟨by decide, by decide, tb 85 (by decide +kernel) rfl⟩
theorem fl_9_17 : FL RX9 17 9 3 := ⟨by decide, by decide, tb 1025 (by decide +kernel) rfl⟩
theorem fl_9_20 : FL RX9 20 9 5 := ⟨by decide, by decide, tb 1027 (by decide +kernel) rfl⟩
theorem fl_9_359 : FL RX9 359 9 41 := ⟨by decide, by decide, tb 1063 (by decide +kernel) rfl⟩
theorem fl_9_65 : FL RX9 65 9 38 := ⟨by decide, by decide, tb 1060 (by decide +kernel) rfl⟩
theorem fl_9_68 : FL RX9 68 9 39 := ⟨by decide, by decide, tb 1061 (by decide +kernel) rfl⟩
theorem fl_9_7 : FL RX9 7 9 0 := ⟨by decide, by decide, tb 1022 (by decide +kernel) rfl⟩
theorem fl_9_71 : FL RX9 71 9 40 := ⟨by decide, by decide, tb 1062 (by decide +kernel) rfl⟩
theorem kl_9_180 : Cond.constantLong RX9 180 10 ∈ TBg := tb 1194 (by decide +kernel) rfl
theorem lk_0_34 : Cond.methodLink RX0 34 arraycopyName ∈ TBg := tb 752 (by decide +kernel) rfl
theorem lk_0_40 : Cond.methodLink RX0 40 yX0_tally ∈ TBg := tb 785 (by decide +kernel) rfl
theorem lk_9_114 : Cond.methodLink RX9 114 yX9_in ∈ TBg := tb 1158 (by decide +kernel) rfl
theorem lk_9_174 : Cond.methodLink RX9 174 yX9_flag ∈ TBg := tb 1216 (by decide +kernel) rfl
theorem lk_9_214 : Cond.methodLink RX9 214 yX9_heightOf ∈ TBg := tb 1240 (by decide +kernel) rfl
theorem lk_9_217 : Cond.methodLink RX9 217 yX9_room ∈ TBg := tb 1261 (by decide +kernel) rfl
theorem lk_9_266 : Cond.methodLink RX9 266 yX9_isOrder ∈ TBg := tb 1334 (by decide +kernel) rfl
theorem lk_9_270 : Cond.methodLink RX9 270 yX9_tells ∈ TBg := tb 1339 (by decide +kernel) rfl
theorem lk_9_356 : Cond.methodLink RX9 356 yX9_isSheet ∈ TBg := tb 1494 (by decide +kernel) rfl
theorem mv_X0_tally : MV yX0_tally cX0_tally 4 (some .int) 1 := ⟨tb 694 (by decide +kernel) rfl, tb 4 (by decide +kernel) rfl, by decide +kernel⟩
theorem mv_X0_tallyv : Cond.instanceMethod yX0_tally ∈ TBg ∧ Cond.selects yX0_tally.cls yX0_tally yX0_tally ∈ TBg := ⟨tb 692 (by decide +kernel) rfl, tb 693 (by decide +kernel) rfl⟩
theorem mv_X9_flag : MV yX9_flag cX9_flag 1 (some .int) 1 := ⟨tb 1218 (by decide +kernel) rfl, tb 13 (by decide +kernel) rfl, by decide +kernel⟩
theorem mv_X9_flags : Cond.static yX9_flag ∈ TBg := tb 1217 (by decide +kernel) rfl
theorem mv_X9_heightOf : MV yX9_heightOf cX9_heightOf 3 (some .int) 2 := ⟨tb 1243 (by decide +kernel) rfl, tb 13 (by decide +kernel) rfl, by decide +kernel⟩
theorem mv_X9_heightOfv : Cond.instanceMethod yX9_heightOf ∈ TBg ∧ Cond.selects yX9_heightOf.cls yX9_heightOf yX9_heightOf ∈ TBg := ⟨tb 1242 (by decide +kernel) rfl, tbP (k := 42) 64 (by decide +kernel) rfl⟩
theorem mv_X9_in : MV yX9_in cX9_in 6 (some .boolean) 3 := ⟨tb 1160 (by decide +kernel) rfl, tb 13 (by decide +kernel) rfl, by decide +kernel⟩
theorem mv_X9_ins : Cond.static yX9_in ∈ TBg := tb 1159 (by decide +kernel) rfl
theorem mv_X9_isOrder : MV yX9_isOrder cX9_isOrder 6 (some .boolean) 4 := ⟨tb 1337 (by decide +kernel) rfl, tb 13 (by decide +kernel) rfl, by decide +kernel⟩
theorem mv_X9_isOrderv : Cond.instanceMethod yX9_isOrder ∈ TBg ∧ Cond.selects yX9_isOrder.cls yX9_isOrder yX9_isOrder ∈ TBg := ⟨tb 1336 (by decide +kernel) rfl, tbP (k := 42) 77 (by decide +kernel) rfl⟩
theorem mv_X9_isSheet : MV yX9_isSheet cX9_isSheet 2 (some .boolean) 2 := ⟨tb 1496 (by decide +kernel) rfl, tb 13 (by decide +kernel) rfl, by decide +kernel⟩
theorem mv_X9_isSheets : Cond.static yX9_isSheet ∈ TBg := tb 1495 (by decide +kernel) rfl
theorem mv_X9_room : MV yX9_room cX9_room 3 (some .int) 2 := ⟨tb 1264 (by decide +kernel) rfl, tb 13 (by decide +kernel) rfl, by decide +kernel⟩
theorem mv_X9_roomv : Cond.instanceMethod yX9_room ∈ TBg ∧ Cond.selects yX9_room.cls yX9_room yX9_room ∈ TBg := ⟨tb 1263 (by decide +kernel) rfl, tbP (k := 42) 67 (by decide +kernel) rfl⟩
theorem mv_X9_tells : MV yX9_tells cX9_tells 7 none 5 := ⟨tb 1342 (by decide +kernel) rfl, tb 13 (by decide +kernel) rfl, by decide +kernel⟩
theorem mv_X9_tellsv : Cond.instanceMethod yX9_tells ∈ TBg ∧ Cond.selects yX9_tells.cls yX9_tells yX9_tells ∈ TBg := ⟨tb 1341 (by decide +kernel) rfl, tbP (k := 42) 78 (by decide +kernel) rfl⟩
theorem dX0_append_0 : decode cX0_append 0 = .ok (.aload_n 0, 1) := by decide +kernel
theorem dX0_append_1 : decode cX0_append 1 = .ok (.getfield 30, 3) := by decide +kernel
theorem dX0_append_4 : decode cX0_append 4 = .ok (.bipush 12, 2) := by decide +kernel
theorem dX0_append_6 : decode cX0_append 6 = .ok (.if_icmp .lt 6, 3) := by decide +kernel
theorem dX0_append_9 : decode cX0_append 9 = .ok (.bipush (-3), 2) := by decide +kernel
theorem dX0_append_11 : decode cX0_append 11 = .ok (.ireturn, 1) := by decide +kernel
theorem dX0_append_12 : decode cX0_append 12 = .ok (.aload_n 0, 1) := by decide +kernel
theorem dX0_append_13 : decode cX0_append 13 = .ok (.getfield 9, 3) := by decide +kernel
theorem dX0_append_16 : decode cX0_append 16 = .ok (.aload_n 0, 1) := by decide +kernel
theorem dX0_append_17 : decode cX0_append 17 = .ok (.getfield 30, 3) := by decide +kernel
theorem dX0_append_20 : decode cX0_append 20 = .ok (.iload_n 1, 1) := by decide +kernel
theorem dX0_append_21 : decode cX0_append 21 = .ok (.iastore, 1) := by decide +kernel
theorem dX0_append_22 : decode cX0_append 22 = .ok (.aload_n 0, 1) := by decide +kernel
theorem dX0_append_23 : decode cX0_append 23 = .ok (.getfield 15, 3) := by decide +kernel
theorem dX0_append_26 : decode cX0_append 26 = .ok (.aload_n 0, 1) := by decide +kernel
theorem dX0_append_27 : decode cX0_append 27 = .ok (.getfield 30, 3) := by decide +kernel
theorem dX0_append_30 : decode cX0_append 30 = .ok (.iload_n 2, 1) := by decide +kernel
theorem dX0_append_31 : decode cX0_append 31 = .ok (.iastore, 1) := by decide +kernel
theorem dX0_append_32 : decode cX0_append 32 = .ok (.aload_n 0, 1) := by decide +kernel
theorem dX0_append_33 : decode cX0_append 33 = .ok (.getfield 18, 3) := by decide +kernel
theorem dX0_append_36 : decode cX0_append 36 = .ok (.aload_n 0, 1) := by decide +kernel
theorem dX0_append_37 : decode cX0_append 37 = .ok (.getfield 30, 3) := by decide +kernel
theorem dX0_append_40 : decode cX0_append 40 = .ok (.iload_n 3, 1) := by decide +kernel
theorem dX0_append_41 : decode cX0_append 41 = .ok (.iastore, 1) := by decide +kernel
theorem dX0_append_42 : decode cX0_append 42 = .ok (.aload_n 0, 1) := by decide +kernel
theorem dX0_append_43 : decode cX0_append 43 = .ok (.getfield 21, 3) := by decide +kernel
theorem dX0_append_46 : decode cX0_append 46 = .ok (.aload_n 0, 1) := by decide +kernel
theorem dX0_append_47 : decode cX0_append 47 = .ok (.getfield 30, 3) := by decide +kernel
theorem dX0_append_50 : decode cX0_append 50 = .ok (.iload 4, 2) := by decide +kernel
theorem dX0_append_52 : decode cX0_append 52 = .ok (.iastore, 1) := by decide +kernel
theorem dX0_append_53 : decode cX0_append 53 = .ok (.aload_n 0, 1) := by decide +kernel
theorem dX0_append_54 : decode cX0_append 54 = .ok (.getfield 24, 3) := by decide +kernel
theorem dX0_append_57 : decode cX0_append 57 = .ok (.aload_n 0, 1) := by decide +kernel
theorem dX0_append_58 : decode cX0_append 58 = .ok (.getfield 30, 3) := by decide +kernel
theorem dX0_append_61 : decode cX0_append 61 = .ok (.iconst 0, 1) := by decide +kernel
theorem dX0_append_62 : decode cX0_append 62 = .ok (.iastore, 1) := by decide +kernel
theorem dX0_append_63 : decode cX0_append 63 = .ok (.aload_n 0, 1) := by decide +kernel
theorem dX0_append_64 : decode cX0_append 64 = .ok (.getfield 27, 3) := by decide +kernel
theorem dX0_append_67 : decode cX0_append 67 = .ok (.aload_n 0, 1) := by decide +kernel
theorem dX0_append_68 : decode cX0_append 68 = .ok (.getfield 30, 3) := by decide +kernel
theorem dX0_append_71 : decode cX0_append 71 = .ok (.bipush (-4), 2) := by decide +kernel
theorem dX0_append_73 : decode cX0_append 73 = .ok (.iastore, 1) := by decide +kernel
theorem dX0_append_74 : decode cX0_append 74 = .ok (.aload_n 0, 1) := by decide +kernel
theorem dX0_append_75 : decode cX0_append 75 = .ok (.dup, 1) := by decide +kernel
theorem dX0_append_76 : decode cX0_append 76 = .ok (.getfield 30, 3) := by decide +kernel
theorem dX0_append_79 : decode cX0_append 79 = .ok (.dup_x1, 1) := by decide +kernel
theorem dX0_append_80 : decode cX0_append 80 = .ok (.iconst 1, 1) := by decide +kernel
theorem dX0_append_81 : decode cX0_append 81 = .ok (.iadd, 1) := by decide +kernel
theorem dX0_append_82 : decode cX0_append 82 = .ok (.putfield 30, 3) := by decide +kernel
theorem dX0_append_85 : decode cX0_append 85 = .ok (.ireturn, 1) := by decide +kernel
theorem dX0_copyFrom_0 : decode cX0_copyFrom 0 = .ok (.aload_n 0, 1) := by decide +kernel
theorem dX0_copyFrom_1 : decode cX0_copyFrom 1 = .ok (.aload_n 1, 1) := by decide +kernel
theorem dX0_copyFrom_2 : decode cX0_copyFrom 2 = .ok (.getfield 30, 3) := by decide +kernel
theorem dX0_copyFrom_5 : decode cX0_copyFrom 5 = .ok (.putfield 30, 3) := by decide +kernel
theorem dX0_copyFrom_8 : decode cX0_copyFrom 8 = .ok (.aload_n 1, 1) := by decide +kernel
theorem dX0_copyFrom_9 : decode cX0_copyFrom 9 = .ok (.getfield 9, 3) := by decide +kernel
theorem dX0_copyFrom_12 : decode cX0_copyFrom 12 = .ok (.iconst 0, 1) := by decide +kernel
theorem dX0_copyFrom_13 : decode cX0_copyFrom 13 = .ok (.aload_n 0, 1) := by decide +kernel
theorem dX0_copyFrom_14 : decode cX0_copyFrom 14 = .ok (.getfield 9, 3) := by decide +kernel
theorem dX0_copyFrom_17 : decode cX0_copyFrom 17 = .ok (.iconst 0, 1) := by decide +kernel
theorem dX0_copyFrom_18 : decode cX0_copyFrom 18 = .ok (.aload_n 0, 1) := by decide +kernel
theorem dX0_copyFrom_19 : decode cX0_copyFrom 19 = .ok (.getfield 30, 3) := by decide +kernel
theorem dX0_copyFrom_22 : decode cX0_copyFrom 22 = .ok (.invokestatic 34, 3) := by decide +kernel
theorem dX0_copyFrom_25 : decode cX0_copyFrom 25 = .ok (.aload_n 1, 1) := by decide +kernel
theorem dX0_copyFrom_26 : decode cX0_copyFrom 26 = .ok (.getfield 15, 3) := by decide +kernel
theorem dX0_copyFrom_29 : decode cX0_copyFrom 29 = .ok (.iconst 0, 1) := by decide +kernel
theorem dX0_copyFrom_30 : decode cX0_copyFrom 30 = .ok (.aload_n 0, 1) := by decide +kernel
theorem dX0_copyFrom_31 : decode cX0_copyFrom 31 = .ok (.getfield 15, 3) := by decide +kernel
theorem dX0_copyFrom_34 : decode cX0_copyFrom 34 = .ok (.iconst 0, 1) := by decide +kernel
theorem dX0_copyFrom_35 : decode cX0_copyFrom 35 = .ok (.aload_n 0, 1) := by decide +kernel
theorem dX0_copyFrom_36 : decode cX0_copyFrom 36 = .ok (.getfield 30, 3) := by decide +kernel
theorem dX0_copyFrom_39 : decode cX0_copyFrom 39 = .ok (.invokestatic 34, 3) := by decide +kernel
theorem dX0_copyFrom_42 : decode cX0_copyFrom 42 = .ok (.aload_n 1, 1) := by decide +kernel
theorem dX0_copyFrom_43 : decode cX0_copyFrom 43 = .ok (.getfield 18, 3) := by decide +kernel
theorem dX0_copyFrom_46 : decode cX0_copyFrom 46 = .ok (.iconst 0, 1) := by decide +kernel
theorem dX0_copyFrom_47 : decode cX0_copyFrom 47 = .ok (.aload_n 0, 1) := by decide +kernel
theorem dX0_copyFrom_48 : decode cX0_copyFrom 48 = .ok (.getfield 18, 3) := by decide +kernel
theorem dX0_copyFrom_51 : decode cX0_copyFrom 51 = .ok (.iconst 0, 1) := by decide +kernel
theorem dX0_copyFrom_52 : decode cX0_copyFrom 52 = .ok (.aload_n 0, 1) := by decide +kernel
theorem dX0_copyFrom_53 : decode cX0_copyFrom 53 = .ok (.getfield 30, 3) := by decide +kernel
theorem dX0_copyFrom_56 : decode cX0_copyFrom 56 = .ok (.invokestatic 34, 3) := by decide +kernel
theorem dX0_copyFrom_59 : decode cX0_copyFrom 59 = .ok (.aload_n 1, 1) := by decide +kernel
theorem dX0_copyFrom_60 : decode cX0_copyFrom 60 = .ok (.getfield 21, 3) := by decide +kernel
theorem dX0_copyFrom_63 : decode cX0_copyFrom 63 = .ok (.iconst 0, 1) := by decide +kernel
theorem dX0_copyFrom_64 : decode cX0_copyFrom 64 = .ok (.aload_n 0, 1) := by decide +kernel
theorem dX0_copyFrom_65 : decode cX0_copyFrom 65 = .ok (.getfield 21, 3) := by decide +kernel
theorem dX0_copyFrom_68 : decode cX0_copyFrom 68 = .ok (.iconst 0, 1) := by decide +kernel
theorem dX0_copyFrom_69 : decode cX0_copyFrom 69 = .ok (.aload_n 0, 1) := by decide +kernel
theorem dX0_copyFrom_70 : decode cX0_copyFrom 70 = .ok (.getfield 30, 3) := by decide +kernel
theorem dX0_copyFrom_73 : decode cX0_copyFrom 73 = .ok (.invokestatic 34, 3) := by decide +kernel
theorem dX0_copyFrom_76 : decode cX0_copyFrom 76 = .ok (.aload_n 1, 1) := by decide +kernel
theorem dX0_copyFrom_77 : decode cX0_copyFrom 77 = .ok (.getfield 24, 3) := by decide +kernel
theorem dX0_copyFrom_80 : decode cX0_copyFrom 80 = .ok (.iconst 0, 1) := by decide +kernel
theorem dX0_copyFrom_81 : decode cX0_copyFrom 81 = .ok (.aload_n 0, 1) := by decide +kernel
theorem dX0_copyFrom_82 : decode cX0_copyFrom 82 = .ok (.getfield 24, 3) := by decide +kernel
theorem dX0_copyFrom_85 : decode cX0_copyFrom 85 = .ok (.iconst 0, 1) := by decide +kernel
theorem dX0_copyFrom_86 : decode cX0_copyFrom 86 = .ok (.aload_n 0, 1) := by decide +kernel
theorem dX0_copyFrom_87 : decode cX0_copyFrom 87 = .ok (.getfield 30, 3) := by decide +kernel
theorem dX0_copyFrom_90 : decode cX0_copyFrom 90 = .ok (.invokestatic 34, 3) := by decide +kernel
theorem dX0_copyFrom_93 : decode cX0_copyFrom 93 = .ok (.aload_n 1, 1) := by decide +kernel
theorem dX0_copyFrom_94 : decode cX0_copyFrom 94 = .ok (.getfield 27, 3) := by decide +kernel
theorem dX0_copyFrom_97 : decode cX0_copyFrom 97 = .ok (.iconst 0, 1) := by decide +kernel
theorem dX0_copyFrom_98 : decode cX0_copyFrom 98 = .ok (.aload_n 0, 1) := by decide +kernel
theorem dX0_copyFrom_99 : decode cX0_copyFrom 99 = .ok (.getfield 27, 3) := by decide +kernel
theorem dX0_copyFrom_102 : decode cX0_copyFrom 102 = .ok (.iconst 0, 1) := by decide +kernel
theorem dX0_copyFrom_103 : decode cX0_copyFrom 103 = .ok (.aload_n 0, 1) := by decide +kernel
theorem dX0_copyFrom_104 : decode cX0_copyFrom 104 = .ok (.getfield 30, 3) := by decide +kernel
theorem dX0_copyFrom_107 : decode cX0_copyFrom 107 = .ok (.invokestatic 34, 3) := by decide +kernel
theorem dX0_copyFrom_110 : decode cX0_copyFrom 110 = .ok (.return_, 1) := by decide +kernel
theorem dX0_tally_0 : decode cX0_tally 0 = .ok (.iconst 0, 1) := by decide +kernel
theorem dX0_tally_1 : decode cX0_tally 1 = .ok (.istore_n 2, 1) := by decide +kernel
theorem dX0_tally_2 : decode cX0_tally 2 = .ok (.iconst 0, 1) := by decide +kernel
theorem dX0_tally_3 : decode cX0_tally 3 = .ok (.istore_n 3, 1) := by decide +kernel
theorem dX0_tally_4 : decode cX0_tally 4 = .ok (.iload_n 3, 1) := by decide +kernel
theorem dX0_tally_5 : decode cX0_tally 5 = .ok (.aload_n 0, 1) := by decide +kernel
theorem dX0_tally_6 : decode cX0_tally 6 = .ok (.getfield 30, 3) := by decide +kernel
theorem dX0_tally_9 : decode cX0_tally 9 = .ok (.if_icmp .ge 22, 3) := by decide +kernel
theorem dX0_tally_12 : decode cX0_tally 12 = .ok (.aload_n 0, 1) := by decide +kernel
theorem dX0_tally_13 : decode cX0_tally 13 = .ok (.getfield 24, 3) := by decide +kernel
theorem dX0_tally_16 : decode cX0_tally 16 = .ok (.iload_n 3, 1) := by decide +kernel
theorem dX0_tally_17 : decode cX0_tally 17 = .ok (.iaload, 1) := by decide +kernel
theorem dX0_tally_18 : decode cX0_tally 18 = .ok (.iload_n 1, 1) := by decide +kernel
theorem dX0_tally_19 : decode cX0_tally 19 = .ok (.if_icmp .ne 6, 3) := by decide +kernel
theorem dX0_tally_22 : decode cX0_tally 22 = .ok (.iinc 2 1, 3) := by decide +kernel
theorem dX0_tally_25 : decode cX0_tally 25 = .ok (.iinc 3 1, 3) := by decide +kernel
theorem dX0_tally_28 : decode cX0_tally 28 = .ok (.goto (-24), 3) := by decide +kernel
theorem dX0_tally_31 : decode cX0_tally 31 = .ok (.iload_n 2, 1) := by decide +kernel
theorem dX0_tally_32 : decode cX0_tally 32 = .ok (.ireturn, 1) := by decide +kernel
theorem dX0_failThoseToCome_0 : decode cX0_failThoseToCome 0 = .ok (.aload_n 0, 1) := by decide +kernel
theorem dX0_failThoseToCome_1 : decode cX0_failThoseToCome 1 = .ok (.iconst 0, 1) := by decide +kernel
theorem dX0_failThoseToCome_2 : decode cX0_failThoseToCome 2 = .ok (.invokevirtual 40, 3) := by decide +kernel
theorem dX0_failThoseToCome_5 : decode cX0_failThoseToCome 5 = .ok (.istore_n 1, 1) := by decide +kernel
theorem dX0_failThoseToCome_6 : decode cX0_failThoseToCome 6 = .ok (.iconst 0, 1) := by decide +kernel
theorem dX0_failThoseToCome_7 : decode cX0_failThoseToCome 7 = .ok (.istore_n 2, 1) := by decide +kernel
theorem dX0_failThoseToCome_8 : decode cX0_failThoseToCome 8 = .ok (.iload_n 2, 1) := by decide +kernel
theorem dX0_failThoseToCome_9 : decode cX0_failThoseToCome 9 = .ok (.aload_n 0, 1) := by decide +kernel
theorem dX0_failThoseToCome_10 : decode cX0_failThoseToCome 10 = .ok (.getfield 30, 3) := by decide +kernel
theorem dX0_failThoseToCome_13 : decode cX0_failThoseToCome 13 = .ok (.if_icmp .ge 25, 3) := by decide +kernel
theorem dX0_failThoseToCome_16 : decode cX0_failThoseToCome 16 = .ok (.aload_n 0, 1) := by decide +kernel
theorem dX0_failThoseToCome_17 : decode cX0_failThoseToCome 17 = .ok (.getfield 24, 3) := by decide +kernel
theorem dX0_failThoseToCome_20 : decode cX0_failThoseToCome 20 = .ok (.iload_n 2, 1) := by decide +kernel
theorem dX0_failThoseToCome_21 : decode cX0_failThoseToCome 21 = .ok (.iaload, 1) := by decide +kernel
theorem dX0_failThoseToCome_22 : decode cX0_failThoseToCome 22 = .ok (.ifCond .ne 10, 3) := by decide +kernel
theorem dX0_failThoseToCome_25 : decode cX0_failThoseToCome 25 = .ok (.aload_n 0, 1) := by decide +kernel
theorem dX0_failThoseToCome_26 : decode cX0_failThoseToCome 26 = .ok (.getfield 24, 3) := by decide +kernel
theorem dX0_failThoseToCome_29 : decode cX0_failThoseToCome 29 = .ok (.iload_n 2, 1) := by decide +kernel
theorem dX0_failThoseToCome_30 : decode cX0_failThoseToCome 30 = .ok (.iconst 3, 1) := by decide +kernel
theorem dX0_failThoseToCome_31 : decode cX0_failThoseToCome 31 = .ok (.iastore, 1) := by decide +kernel
theorem dX0_failThoseToCome_32 : decode cX0_failThoseToCome 32 = .ok (.iinc 2 1, 3) := by decide +kernel
theorem dX0_failThoseToCome_35 : decode cX0_failThoseToCome 35 = .ok (.goto (-27), 3) := by decide +kernel
theorem dX0_failThoseToCome_38 : decode cX0_failThoseToCome 38 = .ok (.iload_n 1, 1) := by decide +kernel
theorem dX0_failThoseToCome_39 : decode cX0_failThoseToCome 39 = .ok (.ireturn, 1) := by decide +kernel
theorem dX0_isOnDoor_0 : decode cX0_isOnDoor 0 = .ok (.iconst 0, 1) := by decide +kernel
theorem dX0_isOnDoor_1 : decode cX0_isOnDoor 1 = .ok (.istore_n 2, 1) := by decide +kernel
theorem dX0_isOnDoor_2 : decode cX0_isOnDoor 2 = .ok (.iload_n 2, 1) := by decide +kernel
theorem dX0_isOnDoor_3 : decode cX0_isOnDoor 3 = .ok (.aload_n 0, 1) := by decide +kernel
theorem dX0_isOnDoor_4 : decode cX0_isOnDoor 4 = .ok (.getfield 30, 3) := by decide +kernel
theorem dX0_isOnDoor_7 : decode cX0_isOnDoor 7 = .ok (.if_icmp .ge 50, 3) := by decide +kernel
theorem dX0_isOnDoor_10 : decode cX0_isOnDoor 10 = .ok (.aload_n 0, 1) := by decide +kernel
theorem dX0_isOnDoor_11 : decode cX0_isOnDoor 11 = .ok (.getfield 24, 3) := by decide +kernel
theorem dX0_isOnDoor_14 : decode cX0_isOnDoor 14 = .ok (.iload_n 2, 1) := by decide +kernel
theorem dX0_isOnDoor_15 : decode cX0_isOnDoor 15 = .ok (.iaload, 1) := by decide +kernel
theorem dX0_isOnDoor_16 : decode cX0_isOnDoor 16 = .ok (.iconst 1, 1) := by decide +kernel
theorem dX0_isOnDoor_17 : decode cX0_isOnDoor 17 = .ok (.if_icmp .ne 34, 3) := by decide +kernel
theorem dX0_isOnDoor_20 : decode cX0_isOnDoor 20 = .ok (.aload_n 0, 1) := by decide +kernel
theorem dX0_isOnDoor_21 : decode cX0_isOnDoor 21 = .ok (.getfield 15, 3) := by decide +kernel
theorem dX0_isOnDoor_24 : decode cX0_isOnDoor 24 = .ok (.iload_n 2, 1) := by decide +kernel
theorem dX0_isOnDoor_25 : decode cX0_isOnDoor 25 = .ok (.iaload, 1) := by decide +kernel
theorem dX0_isOnDoor_26 : decode cX0_isOnDoor 26 = .ok (.ifCond .eq 13, 3) := by decide +kernel
theorem dX0_isOnDoor_29 : decode cX0_isOnDoor 29 = .ok (.aload_n 0, 1) := by decide +kernel
theorem dX0_isOnDoor_30 : decode cX0_isOnDoor 30 = .ok (.getfield 15, 3) := by decide +kernel
theorem dX0_isOnDoor_33 : decode cX0_isOnDoor 33 = .ok (.iload_n 2, 1) := by decide +kernel
theorem dX0_isOnDoor_34 : decode cX0_isOnDoor 34 = .ok (.iaload, 1) := by decide +kernel
theorem dX0_isOnDoor_35 : decode cX0_isOnDoor 35 = .ok (.iconst 1, 1) := by decide +kernel
theorem dX0_isOnDoor_36 : decode cX0_isOnDoor 36 = .ok (.if_icmp .ne 15, 3) := by decide +kernel
theorem dX0_isOnDoor_39 : decode cX0_isOnDoor 39 = .ok (.aload_n 0, 1) := by decide +kernel
theorem dX0_isOnDoor_40 : decode cX0_isOnDoor 40 = .ok (.getfield 18, 3) := by decide +kernel
theorem dX0_isOnDoor_43 : decode cX0_isOnDoor 43 = .ok (.iload_n 2, 1) := by decide +kernel
theorem dX0_isOnDoor_44 : decode cX0_isOnDoor 44 = .ok (.iaload, 1) := by decide +kernel
theorem dX0_isOnDoor_45 : decode cX0_isOnDoor 45 = .ok (.iload_n 1, 1) := by decide +kernel
theorem dX0_isOnDoor_46 : decode cX0_isOnDoor 46 = .ok (.if_icmp .ne 5, 3) := by decide +kernel
theorem dX0_isOnDoor_49 : decode cX0_isOnDoor 49 = .ok (.iconst 1, 1) := by decide +kernel
theorem dX0_isOnDoor_50 : decode cX0_isOnDoor 50 = .ok (.ireturn, 1) := by decide +kernel
theorem dX0_isOnDoor_51 : decode cX0_isOnDoor 51 = .ok (.iinc 2 1, 3) := by decide +kernel
theorem dX0_isOnDoor_54 : decode cX0_isOnDoor 54 = .ok (.goto (-52), 3) := by decide +kernel
theorem dX0_isOnDoor_57 : decode cX0_isOnDoor 57 = .ok (.iconst 0, 1) := by decide +kernel
theorem dX0_isOnDoor_58 : decode cX0_isOnDoor 58 = .ok (.ireturn, 1) := by decide +kernel
theorem dX0_isOnHole_0 : decode cX0_isOnHole 0 = .ok (.iconst 0, 1) := by decide +kernel
theorem dX0_isOnHole_1 : decode cX0_isOnHole 1 = .ok (.istore_n 2, 1) := by decide +kernel
theorem dX0_isOnHole_2 : decode cX0_isOnHole 2 = .ok (.iload_n 2, 1) := by decide +kernel
theorem dX0_isOnHole_3 : decode cX0_isOnHole 3 = .ok (.aload_n 0, 1) := by decide +kernel
theorem dX0_isOnHole_4 : decode cX0_isOnHole 4 = .ok (.getfield 30, 3) := by decide +kernel
theorem dX0_isOnHole_7 : decode cX0_isOnHole 7 = .ok (.if_icmp .ge 41, 3) := by decide +kernel
theorem dX0_isOnHole_10 : decode cX0_isOnHole 10 = .ok (.aload_n 0, 1) := by decide +kernel
theorem dX0_isOnHole_11 : decode cX0_isOnHole 11 = .ok (.getfield 24, 3) := by decide +kernel
theorem dX0_isOnHole_14 : decode cX0_isOnHole 14 = .ok (.iload_n 2, 1) := by decide +kernel
theorem dX0_isOnHole_15 : decode cX0_isOnHole 15 = .ok (.iaload, 1) := by decide +kernel
theorem dX0_isOnHole_16 : decode cX0_isOnHole 16 = .ok (.iconst 1, 1) := by decide +kernel
theorem dX0_isOnHole_17 : decode cX0_isOnHole 17 = .ok (.if_icmp .ne 25, 3) := by decide +kernel
theorem dX0_isOnHole_20 : decode cX0_isOnHole 20 = .ok (.aload_n 0, 1) := by decide +kernel
theorem dX0_isOnHole_21 : decode cX0_isOnHole 21 = .ok (.getfield 15, 3) := by decide +kernel
theorem dX0_isOnHole_24 : decode cX0_isOnHole 24 = .ok (.iload_n 2, 1) := by decide +kernel
theorem dX0_isOnHole_25 : decode cX0_isOnHole 25 = .ok (.iaload, 1) := by decide +kernel
theorem dX0_isOnHole_26 : decode cX0_isOnHole 26 = .ok (.iconst 2, 1) := by decide +kernel
theorem dX0_isOnHole_27 : decode cX0_isOnHole 27 = .ok (.if_icmp .ne 15, 3) := by decide +kernel
theorem dX0_isOnHole_30 : decode cX0_isOnHole 30 = .ok (.aload_n 0, 1) := by decide +kernel
theorem dX0_isOnHole_31 : decode cX0_isOnHole 31 = .ok (.getfield 18, 3) := by decide +kernel
theorem dX0_isOnHole_34 : decode cX0_isOnHole 34 = .ok (.iload_n 2, 1) := by decide +kernel
theorem dX0_isOnHole_35 : decode cX0_isOnHole 35 = .ok (.iaload, 1) := by decide +kernel
theorem dX0_isOnHole_36 : decode cX0_isOnHole 36 = .ok (.iload_n 1, 1) := by decide +kernel
theorem dX0_isOnHole_37 : decode cX0_isOnHole 37 = .ok (.if_icmp .ne 5, 3) := by decide +kernel
theorem dX0_isOnHole_40 : decode cX0_isOnHole 40 = .ok (.iconst 1, 1) := by decide +kernel
theorem dX0_isOnHole_41 : decode cX0_isOnHole 41 = .ok (.ireturn, 1) := by decide +kernel
theorem dX0_isOnHole_42 : decode cX0_isOnHole 42 = .ok (.iinc 2 1, 3) := by decide +kernel
theorem dX0_isOnHole_45 : decode cX0_isOnHole 45 = .ok (.goto (-43), 3) := by decide +kernel
theorem dX0_isOnHole_48 : decode cX0_isOnHole 48 = .ok (.iconst 0, 1) := by decide +kernel
theorem dX0_isOnHole_49 : decode cX0_isOnHole 49 = .ok (.ireturn, 1) := by decide +kernel
theorem dX8_heightIn_0 : decode cX8_heightIn 0 = .ok (.iload_n 0, 1) := by decide +kernel
theorem dX8_heightIn_1 : decode cX8_heightIn 1 = .ok (.ifCond .gt 7, 3) := by decide +kernel
theorem dX8_heightIn_4 : decode cX8_heightIn 4 = .ok (.iconst 0, 1) := by decide +kernel
theorem dX8_heightIn_5 : decode cX8_heightIn 5 = .ok (.goto 9, 3) := by decide +kernel
theorem dX8_heightIn_8 : decode cX8_heightIn 8 = .ok (.bipush 12, 2) := by decide +kernel
theorem dX8_heightIn_10 : decode cX8_heightIn 10 = .ok (.iload_n 1, 1) := by decide +kernel
theorem dX8_heightIn_11 : decode cX8_heightIn 11 = .ok (.imul, 1) := by decide +kernel
theorem dX8_heightIn_12 : decode cX8_heightIn 12 = .ok (.iload_n 0, 1) := by decide +kernel
theorem dX8_heightIn_13 : decode cX8_heightIn 13 = .ok (.idiv, 1) := by decide +kernel
theorem dX8_heightIn_14 : decode cX8_heightIn 14 = .ok (.ireturn, 1) := by decide +kernel
theorem dX8_tonsIn_0 : decode cX8_tonsIn 0 = .ok (.iload_n 0, 1) := by decide +kernel
theorem dX8_tonsIn_1 : decode cX8_tonsIn 1 = .ok (.bipush 12, 2) := by decide +kernel
theorem dX8_tonsIn_3 : decode cX8_tonsIn 3 = .ok (.iload_n 1, 1) := by decide +kernel
theorem dX8_tonsIn_4 : decode cX8_tonsIn 4 = .ok (.isub, 1) := by decide +kernel
theorem dX8_tonsIn_5 : decode cX8_tonsIn 5 = .ok (.imul, 1) := by decide +kernel
theorem dX8_tonsIn_6 : decode cX8_tonsIn 6 = .ok (.bipush 12, 2) := by decide +kernel
theorem dX8_tonsIn_8 : decode cX8_tonsIn 8 = .ok (.iadd, 1) := by decide +kernel
theorem dX8_tonsIn_9 : decode cX8_tonsIn 9 = .ok (.iconst 1, 1) := by decide +kernel
theorem dX8_tonsIn_10 : decode cX8_tonsIn 10 = .ok (.isub, 1) := by decide +kernel
theorem dX8_tonsIn_11 : decode cX8_tonsIn 11 = .ok (.bipush 12, 2) := by decide +kernel
theorem dX8_tonsIn_13 : decode cX8_tonsIn 13 = .ok (.idiv, 1) := by decide +kernel
theorem dX8_tonsIn_14 : decode cX8_tonsIn 14 = .ok (.istore_n 3, 1) := by decide +kernel
theorem dX8_tonsIn_15 : decode cX8_tonsIn 15 = .ok (.iload_n 3, 1) := by decide +kernel
theorem dX8_tonsIn_16 : decode cX8_tonsIn 16 = .ok (.iload_n 2, 1) := by decide +kernel
theorem dX8_tonsIn_17 : decode cX8_tonsIn 17 = .ok (.if_icmp .ge 7, 3) := by decide +kernel
theorem dX8_tonsIn_20 : decode cX8_tonsIn 20 = .ok (.iload_n 3, 1) := by decide +kernel
theorem dX8_tonsIn_21 : decode cX8_tonsIn 21 = .ok (.goto 4, 3) := by decide +kernel
theorem dX8_tonsIn_24 : decode cX8_tonsIn 24 = .ok (.iload_n 2, 1) := by decide +kernel
theorem dX8_tonsIn_25 : decode cX8_tonsIn 25 = .ok (.ireturn, 1) := by decide +kernel
theorem dX9_heightOf_0 : decode cX9_heightOf 0 = .ok (.bipush 12, 2) := by decide +kernel
theorem dX9_heightOf_2 : decode cX9_heightOf 2 = .ok (.aload_n 0, 1) := by decide +kernel
theorem dX9_heightOf_3 : decode cX9_heightOf 3 = .ok (.getfield 7, 3) := by decide +kernel
theorem dX9_heightOf_6 : decode cX9_heightOf 6 = .ok (.iload_n 1, 1) := by decide +kernel
theorem dX9_heightOf_7 : decode cX9_heightOf 7 = .ok (.iconst 0, 1) := by decide +kernel
theorem dX9_heightOf_8 : decode cX9_heightOf 8 = .ok (.iadd, 1) := by decide +kernel
theorem dX9_heightOf_9 : decode cX9_heightOf 9 = .ok (.iload_n 2, 1) := by decide +kernel
theorem dX9_heightOf_10 : decode cX9_heightOf 10 = .ok (.iadd, 1) := by decide +kernel
theorem dX9_heightOf_11 : decode cX9_heightOf 11 = .ok (.iaload, 1) := by decide +kernel
theorem dX9_heightOf_12 : decode cX9_heightOf 12 = .ok (.imul, 1) := by decide +kernel
theorem dX9_heightOf_13 : decode cX9_heightOf 13 = .ok (.aload_n 0, 1) := by decide +kernel
theorem dX9_heightOf_14 : decode cX9_heightOf 14 = .ok (.getfield 17, 3) := by decide +kernel
theorem dX9_heightOf_17 : decode cX9_heightOf 17 = .ok (.iconst 4, 1) := by decide +kernel
theorem dX9_heightOf_18 : decode cX9_heightOf 18 = .ok (.iload_n 2, 1) := by decide +kernel
theorem dX9_heightOf_19 : decode cX9_heightOf 19 = .ok (.imul, 1) := by decide +kernel
theorem dX9_heightOf_20 : decode cX9_heightOf 20 = .ok (.iaload, 1) := by decide +kernel
theorem dX9_heightOf_21 : decode cX9_heightOf 21 = .ok (.idiv, 1) := by decide +kernel
theorem dX9_heightOf_22 : decode cX9_heightOf 22 = .ok (.ireturn, 1) := by decide +kernel
theorem dX9_aTon_0 : decode cX9_aTon 0 = .ok (.aload_n 0, 1) := by decide +kernel
theorem dX9_aTon_1 : decode cX9_aTon 1 = .ok (.getfield 20, 3) := by decide +kernel
theorem dX9_aTon_4 : decode cX9_aTon 4 = .ok (.bipush 6, 2) := by decide +kernel
theorem dX9_aTon_6 : decode cX9_aTon 6 = .ok (.iload_n 2, 1) := by decide +kernel
theorem dX9_aTon_7 : decode cX9_aTon 7 = .ok (.imul, 1) := by decide +kernel
theorem dX9_aTon_8 : decode cX9_aTon 8 = .ok (.iaload, 1) := by decide +kernel
theorem dX9_aTon_9 : decode cX9_aTon 9 = .ok (.istore_n 3, 1) := by decide +kernel
theorem dX9_aTon_10 : decode cX9_aTon 10 = .ok (.aload_n 0, 1) := by decide +kernel
theorem dX9_aTon_11 : decode cX9_aTon 11 = .ok (.getfield 20, 3) := by decide +kernel
theorem dX9_aTon_14 : decode cX9_aTon 14 = .ok (.bipush 6, 2) := by decide +kernel
theorem dX9_aTon_16 : decode cX9_aTon 16 = .ok (.iload_n 2, 1) := by decide +kernel
theorem dX9_aTon_17 : decode cX9_aTon 17 = .ok (.imul, 1) := by decide +kernel
theorem dX9_aTon_18 : decode cX9_aTon 18 = .ok (.iconst 1, 1) := by decide +kernel
theorem dX9_aTon_19 : decode cX9_aTon 19 = .ok (.iadd, 1) := by decide +kernel
theorem dX9_aTon_20 : decode cX9_aTon 20 = .ok (.iaload, 1) := by decide +kernel
theorem dX9_aTon_21 : decode cX9_aTon 21 = .ok (.istore 4, 2) := by decide +kernel
theorem dX9_aTon_23 : decode cX9_aTon 23 = .ok (.aload_n 0, 1) := by decide +kernel
theorem dX9_aTon_24 : decode cX9_aTon 24 = .ok (.iload_n 1, 1) := by decide +kernel
theorem dX9_aTon_25 : decode cX9_aTon 25 = .ok (.iload_n 3, 1) := by decide +kernel
theorem dX9_aTon_26 : decode cX9_aTon 26 = .ok (.invokevirtual 214, 3) := by decide +kernel
theorem dX9_aTon_29 : decode cX9_aTon 29 = .ok (.aload_n 0, 1) := by decide +kernel
theorem dX9_aTon_30 : decode cX9_aTon 30 = .ok (.iload_n 1, 1) := by decide +kernel
theorem dX9_aTon_31 : decode cX9_aTon 31 = .ok (.iload 4, 2) := by decide +kernel
theorem dX9_aTon_33 : decode cX9_aTon 33 = .ok (.invokevirtual 214, 3) := by decide +kernel
theorem dX9_aTon_36 : decode cX9_aTon 36 = .ok (.if_icmp .le 7, 3) := by decide +kernel
theorem dX9_aTon_39 : decode cX9_aTon 39 = .ok (.iconst 1, 1) := by decide +kernel
theorem dX9_aTon_40 : decode cX9_aTon 40 = .ok (.goto 4, 3) := by decide +kernel
theorem dX9_aTon_43 : decode cX9_aTon 43 = .ok (.iconst 0, 1) := by decide +kernel
theorem dX9_aTon_44 : decode cX9_aTon 44 = .ok (.istore 5, 2) := by decide +kernel
theorem dX9_aTon_46 : decode cX9_aTon 46 = .ok (.iload 5, 2) := by decide +kernel
theorem dX9_aTon_48 : decode cX9_aTon 48 = .ok (.ifCond .eq 7, 3) := by decide +kernel
theorem dX9_aTon_51 : decode cX9_aTon 51 = .ok (.iload_n 3, 1) := by decide +kernel
theorem dX9_aTon_52 : decode cX9_aTon 52 = .ok (.goto 5, 3) := by decide +kernel
theorem dX9_aTon_55 : decode cX9_aTon 55 = .ok (.iload 4, 2) := by decide +kernel
theorem dX9_aTon_57 : decode cX9_aTon 57 = .ok (.istore 6, 2) := by decide +kernel
theorem dX9_aTon_59 : decode cX9_aTon 59 = .ok (.iload 5, 2) := by decide +kernel
theorem dX9_aTon_61 : decode cX9_aTon 61 = .ok (.ifCond .eq 8, 3) := by decide +kernel
theorem dX9_aTon_64 : decode cX9_aTon 64 = .ok (.iload 4, 2) := by decide +kernel
theorem dX9_aTon_66 : decode cX9_aTon 66 = .ok (.goto 4, 3) := by decide +kernel
theorem dX9_aTon_69 : decode cX9_aTon 69 = .ok (.iload_n 3, 1) := by decide +kernel
theorem dX9_aTon_70 : decode cX9_aTon 70 = .ok (.istore 7, 2) := by decide +kernel
theorem dX9_aTon_72 : decode cX9_aTon 72 = .ok (.aload_n 0, 1) := by decide +kernel
theorem dX9_aTon_73 : decode cX9_aTon 73 = .ok (.iload_n 1, 1) := by decide +kernel
theorem dX9_aTon_74 : decode cX9_aTon 74 = .ok (.iload 6, 2) := by decide +kernel
theorem dX9_aTon_76 : decode cX9_aTon 76 = .ok (.invokevirtual 214, 3) := by decide +kernel
theorem dX9_aTon_79 : decode cX9_aTon 79 = .ok (.aload_n 0, 1) := by decide +kernel
theorem dX9_aTon_80 : decode cX9_aTon 80 = .ok (.iload_n 1, 1) := by decide +kernel
theorem dX9_aTon_81 : decode cX9_aTon 81 = .ok (.iload 7, 2) := by decide +kernel
theorem dX9_aTon_83 : decode cX9_aTon 83 = .ok (.invokevirtual 214, 3) := by decide +kernel
theorem dX9_aTon_86 : decode cX9_aTon 86 = .ok (.if_icmp .le 38, 3) := by decide +kernel
theorem dX9_aTon_89 : decode cX9_aTon 89 = .ok (.aload_n 0, 1) := by decide +kernel
theorem dX9_aTon_90 : decode cX9_aTon 90 = .ok (.iload_n 1, 1) := by decide +kernel
theorem dX9_aTon_91 : decode cX9_aTon 91 = .ok (.iload 6, 2) := by decide +kernel
theorem dX9_aTon_93 : decode cX9_aTon 93 = .ok (.invokevirtual 214, 3) := by decide +kernel
theorem dX9_aTon_96 : decode cX9_aTon 96 = .ok (.aload_n 0, 1) := by decide +kernel
theorem dX9_aTon_97 : decode cX9_aTon 97 = .ok (.getfield 20, 3) := by decide +kernel
theorem dX9_aTon_100 : decode cX9_aTon 100 = .ok (.bipush 6, 2) := by decide +kernel
theorem dX9_aTon_102 : decode cX9_aTon 102 = .ok (.iload_n 2, 1) := by decide +kernel
theorem dX9_aTon_103 : decode cX9_aTon 103 = .ok (.imul, 1) := by decide +kernel
theorem dX9_aTon_104 : decode cX9_aTon 104 = .ok (.iconst 2, 1) := by decide +kernel
theorem dX9_aTon_105 : decode cX9_aTon 105 = .ok (.iadd, 1) := by decide +kernel
theorem dX9_aTon_106 : decode cX9_aTon 106 = .ok (.iaload, 1) := by decide +kernel
theorem dX9_aTon_107 : decode cX9_aTon 107 = .ok (.if_icmp .le 17, 3) := by decide +kernel
theorem dX9_aTon_110 : decode cX9_aTon 110 = .ok (.aload_n 0, 1) := by decide +kernel
theorem dX9_aTon_111 : decode cX9_aTon 111 = .ok (.iload_n 1, 1) := by decide +kernel
theorem dX9_aTon_112 : decode cX9_aTon 112 = .ok (.iload 7, 2) := by decide +kernel
theorem dX9_aTon_114 : decode cX9_aTon 114 = .ok (.invokevirtual 217, 3) := by decide +kernel
theorem dX9_aTon_117 : decode cX9_aTon 117 = .ok (.ifCond .le 7, 3) := by decide +kernel
theorem dX9_aTon_120 : decode cX9_aTon 120 = .ok (.iconst 1, 1) := by decide +kernel
theorem dX9_aTon_121 : decode cX9_aTon 121 = .ok (.goto 4, 3) := by decide +kernel
theorem dX9_aTon_124 : decode cX9_aTon 124 = .ok (.iconst 0, 1) := by decide +kernel
theorem dX9_aTon_125 : decode cX9_aTon 125 = .ok (.istore 8, 2) := by decide +kernel
theorem dX9_aTon_127 : decode cX9_aTon 127 = .ok (.aload_n 0, 1) := by decide +kernel
theorem dX9_aTon_128 : decode cX9_aTon 128 = .ok (.getfield 7, 3) := by decide +kernel
theorem dX9_aTon_131 : decode cX9_aTon 131 = .ok (.iload_n 1, 1) := by decide +kernel
theorem dX9_aTon_132 : decode cX9_aTon 132 = .ok (.iconst 0, 1) := by decide +kernel
theorem dX9_aTon_133 : decode cX9_aTon 133 = .ok (.iadd, 1) := by decide +kernel
theorem dX9_aTon_134 : decode cX9_aTon 134 = .ok (.iload 6, 2) := by decide +kernel
theorem dX9_aTon_136 : decode cX9_aTon 136 = .ok (.iadd, 1) := by decide +kernel
theorem dX9_aTon_137 : decode cX9_aTon 137 = .ok (.dup2, 1) := by decide +kernel
theorem dX9_aTon_138 : decode cX9_aTon 138 = .ok (.iaload, 1) := by decide +kernel
theorem dX9_aTon_139 : decode cX9_aTon 139 = .ok (.iload 8, 2) := by decide +kernel
theorem dX9_aTon_141 : decode cX9_aTon 141 = .ok (.invokestatic 174, 3) := by decide +kernel
theorem dX9_aTon_144 : decode cX9_aTon 144 = .ok (.isub, 1) := by decide +kernel
theorem dX9_aTon_145 : decode cX9_aTon 145 = .ok (.iastore, 1) := by decide +kernel
theorem dX9_aTon_146 : decode cX9_aTon 146 = .ok (.aload_n 0, 1) := by decide +kernel
theorem dX9_aTon_147 : decode cX9_aTon 147 = .ok (.getfield 7, 3) := by decide +kernel
theorem dX9_aTon_150 : decode cX9_aTon 150 = .ok (.iload_n 1, 1) := by decide +kernel
theorem dX9_aTon_151 : decode cX9_aTon 151 = .ok (.iconst 0, 1) := by decide +kernel
theorem dX9_aTon_152 : decode cX9_aTon 152 = .ok (.iadd, 1) := by decide +kernel
theorem dX9_aTon_153 : decode cX9_aTon 153 = .ok (.iload 7, 2) := by decide +kernel
theorem dX9_aTon_155 : decode cX9_aTon 155 = .ok (.iadd, 1) := by decide +kernel
theorem dX9_aTon_156 : decode cX9_aTon 156 = .ok (.dup2, 1) := by decide +kernel
theorem dX9_aTon_157 : decode cX9_aTon 157 = .ok (.iaload, 1) := by decide +kernel
theorem dX9_aTon_158 : decode cX9_aTon 158 = .ok (.iload 8, 2) := by decide +kernel
theorem dX9_aTon_160 : decode cX9_aTon 160 = .ok (.invokestatic 174, 3) := by decide +kernel
theorem dX9_aTon_163 : decode cX9_aTon 163 = .ok (.iadd, 1) := by decide +kernel
theorem dX9_aTon_164 : decode cX9_aTon 164 = .ok (.iastore, 1) := by decide +kernel
theorem dX9_aTon_165 : decode cX9_aTon 165 = .ok (.return_, 1) := by decide +kernel
theorem dX9_read_0 : decode cX9_read 0 = .ok (.iload_n 1, 1) := by decide +kernel
theorem dX9_read_1 : decode cX9_read 1 = .ok (.iload_n 2, 1) := by decide +kernel
theorem dX9_read_2 : decode cX9_read 2 = .ok (.invokestatic 356, 3) := by decide +kernel
theorem dX9_read_5 : decode cX9_read 5 = .ok (.ifCond .eq 16, 3) := by decide +kernel
theorem dX9_read_8 : decode cX9_read 8 = .ok (.iload 4, 2) := by decide +kernel
theorem dX9_read_10 : decode cX9_read 10 = .ok (.i2l, 1) := by decide +kernel
theorem dX9_read_11 : decode cX9_read 11 = .ok (.lconst 0, 1) := by decide +kernel
theorem dX9_read_12 : decode cX9_read 12 = .ok (.ldc2_w 180, 3) := by decide +kernel
theorem dX9_read_15 : decode cX9_read 15 = .ok (.invokestatic 114, 3) := by decide +kernel
theorem dX9_read_18 : decode cX9_read 18 = .ok (.ifCond .ne 5, 3) := by decide +kernel
theorem dX9_read_21 : decode cX9_read 21 = .ok (.iconst (-1), 1) := by decide +kernel
theorem dX9_read_22 : decode cX9_read 22 = .ok (.ireturn, 1) := by decide +kernel
theorem dX9_read_23 : decode cX9_read 23 = .ok (.iconst 0, 1) := by decide +kernel
theorem dX9_read_24 : decode cX9_read 24 = .ok (.istore 5, 2) := by decide +kernel
theorem dX9_read_26 : decode cX9_read 26 = .ok (.iconst 0, 1) := by decide +kernel
theorem dX9_read_27 : decode cX9_read 27 = .ok (.istore 6, 2) := by decide +kernel
theorem dX9_read_29 : decode cX9_read 29 = .ok (.iconst 0, 1) := by decide +kernel
theorem dX9_read_30 : decode cX9_read 30 = .ok (.istore 7, 2) := by decide +kernel
theorem dX9_read_32 : decode cX9_read 32 = .ok (.iload 7, 2) := by decide +kernel
theorem dX9_read_34 : decode cX9_read 34 = .ok (.iload 4, 2) := by decide +kernel
theorem dX9_read_36 : decode cX9_read 36 = .ok (.if_icmp .ge 200, 3) := by decide +kernel
theorem dX9_read_39 : decode cX9_read 39 = .ok (.iload 5, 2) := by decide +kernel
theorem dX9_read_41 : decode cX9_read 41 = .ok (.ifCond .ne 195, 3) := by decide +kernel
theorem dX9_read_44 : decode cX9_read 44 = .ok (.iconst 0, 1) := by decide +kernel
theorem dX9_read_45 : decode cX9_read 45 = .ok (.istore 8, 2) := by decide +kernel
theorem dX9_read_47 : decode cX9_read 47 = .ok (.iload 8, 2) := by decide +kernel
theorem dX9_read_49 : decode cX9_read 49 = .ok (.iconst 4, 1) := by decide +kernel
theorem dX9_read_50 : decode cX9_read 50 = .ok (.if_icmp .ge 84, 3) := by decide +kernel
theorem dX9_read_53 : decode cX9_read 53 = .ok (.iload 5, 2) := by decide +kernel
theorem dX9_read_55 : decode cX9_read 55 = .ok (.ifCond .ne 79, 3) := by decide +kernel
theorem dX9_read_58 : decode cX9_read 58 = .ok (.iload_n 3, 1) := by decide +kernel
theorem dX9_read_59 : decode cX9_read 59 = .ok (.i2l, 1) := by decide +kernel
theorem dX9_read_60 : decode cX9_read 60 = .ok (.iconst 4, 1) := by decide +kernel
theorem dX9_read_61 : decode cX9_read 61 = .ok (.iload 7, 2) := by decide +kernel
theorem dX9_read_63 : decode cX9_read 63 = .ok (.imul, 1) := by decide +kernel
theorem dX9_read_64 : decode cX9_read 64 = .ok (.i2l, 1) := by decide +kernel
theorem dX9_read_65 : decode cX9_read 65 = .ok (.ladd, 1) := by decide +kernel
theorem dX9_read_66 : decode cX9_read 66 = .ok (.iload 8, 2) := by decide +kernel
theorem dX9_read_68 : decode cX9_read 68 = .ok (.i2l, 1) := by decide +kernel
theorem dX9_read_69 : decode cX9_read 69 = .ok (.ladd, 1) := by decide +kernel
theorem dX9_read_70 : decode cX9_read 70 = .ok (.lstore 9, 2) := by decide +kernel
theorem dX9_read_72 : decode cX9_read 72 = .ok (.aload_n 0, 1) := by decide +kernel
theorem dX9_read_73 : decode cX9_read 73 = .ok (.getfield 65, 3) := by decide +kernel
theorem dX9_read_76 : decode cX9_read 76 = .ok (.iload_n 1, 1) := by decide +kernel
theorem dX9_read_77 : decode cX9_read 77 = .ok (.iaload, 1) := by decide +kernel
theorem dX9_read_78 : decode cX9_read 78 = .ok (.bipush (-4), 2) := by decide +kernel
theorem dX9_read_80 : decode cX9_read 80 = .ok (.if_icmp .ne 7, 3) := by decide +kernel
theorem dX9_read_83 : decode cX9_read 83 = .ok (.iconst 1, 1) := by decide +kernel
theorem dX9_read_84 : decode cX9_read 84 = .ok (.goto 42, 3) := by decide +kernel
theorem dX9_read_87 : decode cX9_read 87 = .ok (.aload_n 0, 1) := by decide +kernel
theorem dX9_read_88 : decode cX9_read 88 = .ok (.getfield 65, 3) := by decide +kernel
theorem dX9_read_91 : decode cX9_read 91 = .ok (.iload_n 1, 1) := by decide +kernel
theorem dX9_read_92 : decode cX9_read 92 = .ok (.iaload, 1) := by decide +kernel
theorem dX9_read_93 : decode cX9_read 93 = .ok (.iload_n 2, 1) := by decide +kernel
theorem dX9_read_94 : decode cX9_read 94 = .ok (.if_icmp .eq 7, 3) := by decide +kernel
theorem dX9_read_97 : decode cX9_read 97 = .ok (.iconst 3, 1) := by decide +kernel
theorem dX9_read_98 : decode cX9_read 98 = .ok (.goto 28, 3) := by decide +kernel
theorem dX9_read_101 : decode cX9_read 101 = .ok (.lload 9, 2) := by decide +kernel
theorem dX9_read_103 : decode cX9_read 103 = .ok (.lconst 0, 1) := by decide +kernel
theorem dX9_read_104 : decode cX9_read 104 = .ok (.lcmp, 1) := by decide +kernel
theorem dX9_read_105 : decode cX9_read 105 = .ok (.ifCond .lt 16, 3) := by decide +kernel
theorem dX9_read_108 : decode cX9_read 108 = .ok (.lload 9, 2) := by decide +kernel
theorem dX9_read_110 : decode cX9_read 110 = .ok (.aload_n 0, 1) := by decide +kernel
theorem dX9_read_111 : decode cX9_read 111 = .ok (.getfield 68, 3) := by decide +kernel
theorem dX9_read_114 : decode cX9_read 114 = .ok (.iload_n 1, 1) := by decide +kernel
theorem dX9_read_115 : decode cX9_read 115 = .ok (.iaload, 1) := by decide +kernel
theorem dX9_read_116 : decode cX9_read 116 = .ok (.i2l, 1) := by decide +kernel
theorem dX9_read_117 : decode cX9_read 117 = .ok (.lcmp, 1) := by decide +kernel
theorem dX9_read_118 : decode cX9_read 118 = .ok (.ifCond .lt 7, 3) := by decide +kernel
theorem dX9_read_121 : decode cX9_read 121 = .ok (.iconst 2, 1) := by decide +kernel
theorem dX9_read_122 : decode cX9_read 122 = .ok (.goto 4, 3) := by decide +kernel
theorem dX9_read_125 : decode cX9_read 125 = .ok (.iconst 0, 1) := by decide +kernel
theorem dX9_read_126 : decode cX9_read 126 = .ok (.istore 5, 2) := by decide +kernel
theorem dX9_read_128 : decode cX9_read 128 = .ok (.iinc 8 1, 3) := by decide +kernel
theorem dX9_read_131 : decode cX9_read 131 = .ok (.goto (-84), 3) := by decide +kernel
theorem dX9_read_134 : decode cX9_read 134 = .ok (.iload 5, 2) := by decide +kernel
theorem dX9_read_136 : decode cX9_read 136 = .ok (.ifCond .ne 94, 3) := by decide +kernel
theorem dX9_read_139 : decode cX9_read 139 = .ok (.bipush 40, 2) := by decide +kernel
theorem dX9_read_141 : decode cX9_read 141 = .ok (.iload_n 1, 1) := by decide +kernel
theorem dX9_read_142 : decode cX9_read 142 = .ok (.imul, 1) := by decide +kernel
theorem dX9_read_143 : decode cX9_read 143 = .ok (.iload_n 3, 1) := by decide +kernel
theorem dX9_read_144 : decode cX9_read 144 = .ok (.iadd, 1) := by decide +kernel
theorem dX9_read_145 : decode cX9_read 145 = .ok (.iconst 4, 1) := by decide +kernel
theorem dX9_read_146 : decode cX9_read 146 = .ok (.iload 7, 2) := by decide +kernel
theorem dX9_read_148 : decode cX9_read 148 = .ok (.imul, 1) := by decide +kernel
theorem dX9_read_149 : decode cX9_read 149 = .ok (.iadd, 1) := by decide +kernel
theorem dX9_read_150 : decode cX9_read 150 = .ok (.istore 8, 2) := by decide +kernel
theorem dX9_read_152 : decode cX9_read 152 = .ok (.aload_n 0, 1) := by decide +kernel
theorem dX9_read_153 : decode cX9_read 153 = .ok (.aload_n 0, 1) := by decide +kernel
theorem dX9_read_154 : decode cX9_read 154 = .ok (.getfield 7, 3) := by decide +kernel
theorem dX9_read_157 : decode cX9_read 157 = .ok (.bipush 71, 2) := by decide +kernel
theorem dX9_read_159 : decode cX9_read 159 = .ok (.iaload, 1) := by decide +kernel
theorem dX9_read_160 : decode cX9_read 160 = .ok (.i2l, 1) := by decide +kernel
theorem dX9_read_161 : decode cX9_read 161 = .ok (.aload_n 0, 1) := by decide +kernel
theorem dX9_read_162 : decode cX9_read 162 = .ok (.getfield 71, 3) := by decide +kernel
theorem dX9_read_165 : decode cX9_read 165 = .ok (.iload 8, 2) := by decide +kernel
theorem dX9_read_167 : decode cX9_read 167 = .ok (.iaload, 1) := by decide +kernel
theorem dX9_read_168 : decode cX9_read 168 = .ok (.i2l, 1) := by decide +kernel
theorem dX9_read_169 : decode cX9_read 169 = .ok (.ladd, 1) := by decide +kernel
theorem dX9_read_170 : decode cX9_read 170 = .ok (.aload_n 0, 1) := by decide +kernel
theorem dX9_read_171 : decode cX9_read 171 = .ok (.getfield 71, 3) := by decide +kernel
theorem dX9_read_174 : decode cX9_read 174 = .ok (.iload 8, 2) := by decide +kernel
theorem dX9_read_176 : decode cX9_read 176 = .ok (.iconst 1, 1) := by decide +kernel
theorem dX9_read_177 : decode cX9_read 177 = .ok (.iadd, 1) := by decide +kernel
theorem dX9_read_178 : decode cX9_read 178 = .ok (.iaload, 1) := by decide +kernel
theorem dX9_read_179 : decode cX9_read 179 = .ok (.aload_n 0, 1) := by decide +kernel
theorem dX9_read_180 : decode cX9_read 180 = .ok (.getfield 71, 3) := by decide +kernel
theorem dX9_read_183 : decode cX9_read 183 = .ok (.iload 8, 2) := by decide +kernel
theorem dX9_read_185 : decode cX9_read 185 = .ok (.iconst 2, 1) := by decide +kernel
theorem dX9_read_186 : decode cX9_read 186 = .ok (.iadd, 1) := by decide +kernel
theorem dX9_read_187 : decode cX9_read 187 = .ok (.iaload, 1) := by decide +kernel
theorem dX9_read_188 : decode cX9_read 188 = .ok (.aload_n 0, 1) := by decide +kernel
theorem dX9_read_189 : decode cX9_read 189 = .ok (.getfield 71, 3) := by decide +kernel
theorem dX9_read_192 : decode cX9_read 192 = .ok (.iload 8, 2) := by decide +kernel
theorem dX9_read_194 : decode cX9_read 194 = .ok (.iconst 3, 1) := by decide +kernel
theorem dX9_read_195 : decode cX9_read 195 = .ok (.iadd, 1) := by decide +kernel
theorem dX9_read_196 : decode cX9_read 196 = .ok (.iaload, 1) := by decide +kernel
theorem dX9_read_197 : decode cX9_read 197 = .ok (.invokevirtual 266, 3) := by decide +kernel
theorem dX9_read_200 : decode cX9_read 200 = .ok (.ifCond .ne 9, 3) := by decide +kernel
theorem dX9_read_203 : decode cX9_read 203 = .ok (.bipush (-20), 2) := by decide +kernel
theorem dX9_read_205 : decode cX9_read 205 = .ok (.iload 7, 2) := by decide +kernel
theorem dX9_read_207 : decode cX9_read 207 = .ok (.isub, 1) := by decide +kernel
theorem dX9_read_208 : decode cX9_read 208 = .ok (.ireturn, 1) := by decide +kernel
theorem dX9_read_209 : decode cX9_read 209 = .ok (.aload_n 0, 1) := by decide +kernel
theorem dX9_read_210 : decode cX9_read 210 = .ok (.getfield 7, 3) := by decide +kernel
theorem dX9_read_213 : decode cX9_read 213 = .ok (.bipush 76, 2) := by decide +kernel
theorem dX9_read_215 : decode cX9_read 215 = .ok (.iaload, 1) := by decide +kernel
theorem dX9_read_216 : decode cX9_read 216 = .ok (.iload 6, 2) := by decide +kernel
theorem dX9_read_218 : decode cX9_read 218 = .ok (.iadd, 1) := by decide +kernel
theorem dX9_read_219 : decode cX9_read 219 = .ok (.bipush 12, 2) := by decide +kernel
theorem dX9_read_221 : decode cX9_read 221 = .ok (.if_icmp .ne 6, 3) := by decide +kernel
theorem dX9_read_224 : decode cX9_read 224 = .ok (.bipush (-3), 2) := by decide +kernel
theorem dX9_read_226 : decode cX9_read 226 = .ok (.ireturn, 1) := by decide +kernel
theorem dX9_read_227 : decode cX9_read 227 = .ok (.iinc 6 1, 3) := by decide +kernel
theorem dX9_read_230 : decode cX9_read 230 = .ok (.iinc 7 1, 3) := by decide +kernel
theorem dX9_read_233 : decode cX9_read 233 = .ok (.goto (-201), 3) := by decide +kernel
theorem dX9_read_236 : decode cX9_read 236 = .ok (.aload_n 0, 1) := by decide +kernel
theorem dX9_read_237 : decode cX9_read 237 = .ok (.iload 5, 2) := by decide +kernel
theorem dX9_read_239 : decode cX9_read 239 = .ok (.putfield 359, 3) := by decide +kernel
theorem dX9_read_242 : decode cX9_read 242 = .ok (.iconst 0, 1) := by decide +kernel
theorem dX9_read_243 : decode cX9_read 243 = .ok (.istore 7, 2) := by decide +kernel
theorem dX9_read_245 : decode cX9_read 245 = .ok (.iload 7, 2) := by decide +kernel
theorem dX9_read_247 : decode cX9_read 247 = .ok (.iload 6, 2) := by decide +kernel
theorem dX9_read_249 : decode cX9_read 249 = .ok (.if_icmp .ge 69, 3) := by decide +kernel
theorem dX9_read_252 : decode cX9_read 252 = .ok (.bipush 40, 2) := by decide +kernel
theorem dX9_read_254 : decode cX9_read 254 = .ok (.iload_n 1, 1) := by decide +kernel
theorem dX9_read_255 : decode cX9_read 255 = .ok (.imul, 1) := by decide +kernel
theorem dX9_read_256 : decode cX9_read 256 = .ok (.iload_n 3, 1) := by decide +kernel
theorem dX9_read_257 : decode cX9_read 257 = .ok (.iadd, 1) := by decide +kernel
theorem dX9_read_258 : decode cX9_read 258 = .ok (.iconst 4, 1) := by decide +kernel
theorem dX9_read_259 : decode cX9_read 259 = .ok (.iload 7, 2) := by decide +kernel
theorem dX9_read_261 : decode cX9_read 261 = .ok (.imul, 1) := by decide +kernel
theorem dX9_read_262 : decode cX9_read 262 = .ok (.iadd, 1) := by decide +kernel
theorem dX9_read_263 : decode cX9_read 263 = .ok (.istore 8, 2) := by decide +kernel
theorem dX9_read_265 : decode cX9_read 265 = .ok (.aload_n 0, 1) := by decide +kernel
theorem dX9_read_266 : decode cX9_read 266 = .ok (.iconst 0, 1) := by decide +kernel
theorem dX9_read_267 : decode cX9_read 267 = .ok (.aload_n 0, 1) := by decide +kernel
theorem dX9_read_268 : decode cX9_read 268 = .ok (.getfield 7, 3) := by decide +kernel
theorem dX9_read_271 : decode cX9_read 271 = .ok (.bipush 71, 2) := by decide +kernel
theorem dX9_read_273 : decode cX9_read 273 = .ok (.iaload, 1) := by decide +kernel
theorem dX9_read_274 : decode cX9_read 274 = .ok (.aload_n 0, 1) := by decide +kernel
theorem dX9_read_275 : decode cX9_read 275 = .ok (.getfield 71, 3) := by decide +kernel
theorem dX9_read_278 : decode cX9_read 278 = .ok (.iload 8, 2) := by decide +kernel
theorem dX9_read_280 : decode cX9_read 280 = .ok (.iaload, 1) := by decide +kernel
theorem dX9_read_281 : decode cX9_read 281 = .ok (.iadd, 1) := by decide +kernel
theorem dX9_read_282 : decode cX9_read 282 = .ok (.aload_n 0, 1) := by decide +kernel
theorem dX9_read_283 : decode cX9_read 283 = .ok (.getfield 71, 3) := by decide +kernel
theorem dX9_read_286 : decode cX9_read 286 = .ok (.iload 8, 2) := by decide +kernel
theorem dX9_read_288 : decode cX9_read 288 = .ok (.iconst 1, 1) := by decide +kernel
theorem dX9_read_289 : decode cX9_read 289 = .ok (.iadd, 1) := by decide +kernel
theorem dX9_read_290 : decode cX9_read 290 = .ok (.iaload, 1) := by decide +kernel
theorem dX9_read_291 : decode cX9_read 291 = .ok (.aload_n 0, 1) := by decide +kernel
theorem dX9_read_292 : decode cX9_read 292 = .ok (.getfield 71, 3) := by decide +kernel
theorem dX9_read_295 : decode cX9_read 295 = .ok (.iload 8, 2) := by decide +kernel
theorem dX9_read_297 : decode cX9_read 297 = .ok (.iconst 2, 1) := by decide +kernel
theorem dX9_read_298 : decode cX9_read 298 = .ok (.iadd, 1) := by decide +kernel
theorem dX9_read_299 : decode cX9_read 299 = .ok (.iaload, 1) := by decide +kernel
theorem dX9_read_300 : decode cX9_read 300 = .ok (.aload_n 0, 1) := by decide +kernel
theorem dX9_read_301 : decode cX9_read 301 = .ok (.getfield 71, 3) := by decide +kernel
theorem dX9_read_304 : decode cX9_read 304 = .ok (.iload 8, 2) := by decide +kernel
theorem dX9_read_306 : decode cX9_read 306 = .ok (.iconst 3, 1) := by decide +kernel
theorem dX9_read_307 : decode cX9_read 307 = .ok (.iadd, 1) := by decide +kernel
theorem dX9_read_308 : decode cX9_read 308 = .ok (.iaload, 1) := by decide +kernel
theorem dX9_read_309 : decode cX9_read 309 = .ok (.invokevirtual 270, 3) := by decide +kernel
theorem dX9_read_312 : decode cX9_read 312 = .ok (.iinc 7 1, 3) := by decide +kernel
theorem dX9_read_315 : decode cX9_read 315 = .ok (.goto (-70), 3) := by decide +kernel
theorem dX9_read_318 : decode cX9_read 318 = .ok (.iload 6, 2) := by decide +kernel
theorem dX9_read_320 : decode cX9_read 320 = .ok (.ireturn, 1) := by decide +kernel
def f_X0_append (m : Mm) (O : Nat) (a1 : Int32) (a2 : Int32) (a3 : Int32) (a4 : Int32) : Option (Int32 × Mm) :=
  if (m O 0) < (12 : Int32) then ((ast m (O + 1) 12 (m O 0) a1).bind fun m1 => (ast m1 (O + 2) 12 (m1 O 0) a2).bind fun m2 => (ast m2 (O + 3) 12 (m2 O 0) a3).bind fun m3 => (ast m3 (O + 4) 12 (m3 O 0) a4).bind fun m4 => (ast m4 (O + 5) 12 (m4 O 0) 0).bind fun m5 => (ast m5 (O + 6) 12 (m5 O 0) (-4)).bind fun m6 => letv (m6 O 0) fun x7 => letv (up2 m6 O 0 (x7 + (1 : Int32))) fun m8 => some (x7, m8)) else (some ((-3), m))
set_option maxHeartbeats 4000000 in
set_option maxRecDepth 100000 in
theorem ct_X0_append (F : Nat) {n : Nat} (hn : 113 ≤ n) (P D : Nat) (T : Option Nat) (m : Mm) (O : Nat) (hO : isOr O) (a1 : Int32) (a2 : Int32) (a3 : Int32) (a4 : Int32) : Ct yX0_append cX0_append 5 (some .int) 0 0 [.ref O, .int a1, .int a2, .int a3, .int a4] n n m (RF P D T) (rI (RF P D T) (f_X0_append m O a1 a2 a3 a4)) := by
  refine Ct.ofI (own := RX0) (nm := "append") [(0, .ref O), (1, .int a1), (2, .int a2), (3, .int a3), (4, .int a4)] (by decide) (Nat.le_of_ble_eq_true rfl) rfl rfl rfl ?_
  unfold f_X0_append
  refine J_aload_n 0 0 O dX0_append_0 rfl rfl ?_
  refine J_getI O 0 0 dX0_append_1 fl_0_30 (layc_Or_0 hO) rfl (lt_Or_0 hO hn) ?_
  refine J_bipush 12 dX0_append_4 (by decide) ?_
  refine J_icmp_lt 12 dX0_append_6 (by decide) ?_ ?_
  · refine J_aload_n 0 0 O dX0_append_12 rfl rfl ?_
    refine J_getR O 0 1 (O + 1) dX0_append_13 fl_0_9 (layc_Or_0 hO) rfl (lt_Or_0 hO hn) (rf_Or_0_1 hO) ?_
    refine J_aload_n 0 0 O dX0_append_16 rfl rfl ?_
    refine J_getI O 0 0 dX0_append_17 fl_0_30 (layc_Or_0 hO) rfl (lt_Or_0 hO hn) ?_
    refine J_iload_n 1 1 a1 dX0_append_20 rfl rfl ?_
    refine J_iast (O + 1) 12 dX0_append_21 (lay_Or_1 hO) (lt_Or_1 hO hn) (fun m1 => ?_)
    refine J_aload_n 0 0 O dX0_append_22 rfl rfl ?_
    refine J_getR O 0 2 (O + 2) dX0_append_23 fl_0_15 (layc_Or_0 hO) rfl (lt_Or_0 hO hn) (rf_Or_0_2 hO) ?_
    refine J_aload_n 0 0 O dX0_append_26 rfl rfl ?_
    refine J_getI O 0 0 dX0_append_27 fl_0_30 (layc_Or_0 hO) rfl (lt_Or_0 hO hn) ?_
    refine J_iload_n 2 2 a2 dX0_append_30 rfl rfl ?_
    refine J_iast (O + 2) 12 dX0_append_31 (lay_Or_2 hO) (lt_Or_2 hO hn) (fun m2 => ?_)
    refine J_aload_n 0 0 O dX0_append_32 rfl rfl ?_
    refine J_getR O 0 3 (O + 3) dX0_append_33 fl_0_18 (layc_Or_0 hO) rfl (lt_Or_0 hO hn) (rf_Or_0_3 hO) ?_
    refine J_aload_n 0 0 O dX0_append_36 rfl rfl ?_
    refine J_getI O 0 0 dX0_append_37 fl_0_30 (layc_Or_0 hO) rfl (lt_Or_0 hO hn) ?_
    refine J_iload_n 3 3 a3 dX0_append_40 rfl rfl ?_
    refine J_iast (O + 3) 12 dX0_append_41 (lay_Or_3 hO) (lt_Or_3 hO hn) (fun m3 => ?_)
    refine J_aload_n 0 0 O dX0_append_42 rfl rfl ?_
    refine J_getR O 0 4 (O + 4) dX0_append_43 fl_0_21 (layc_Or_0 hO) rfl (lt_Or_0 hO hn) (rf_Or_0_4 hO) ?_
    refine J_aload_n 0 0 O dX0_append_46 rfl rfl ?_
    refine J_getI O 0 0 dX0_append_47 fl_0_30 (layc_Or_0 hO) rfl (lt_Or_0 hO hn) ?_
    refine J_iload 4 4 a4 dX0_append_50 rfl ?_
    refine J_iast (O + 4) 12 dX0_append_52 (lay_Or_4 hO) (lt_Or_4 hO hn) (fun m4 => ?_)
    refine J_aload_n 0 0 O dX0_append_53 rfl rfl ?_
    refine J_getR O 0 5 (O + 5) dX0_append_54 fl_0_24 (layc_Or_0 hO) rfl (lt_Or_0 hO hn) (rf_Or_0_5 hO) ?_
    refine J_aload_n 0 0 O dX0_append_57 rfl rfl ?_
    refine J_getI O 0 0 dX0_append_58 fl_0_30 (layc_Or_0 hO) rfl (lt_Or_0 hO hn) ?_
    refine J_iconst 0 dX0_append_61 (by decide) ?_
    refine J_iast (O + 5) 12 dX0_append_62 (lay_Or_5 hO) (lt_Or_5 hO hn) (fun m5 => ?_)
    refine J_aload_n 0 0 O dX0_append_63 rfl rfl ?_
    refine J_getR O 0 6 (O + 6) dX0_append_64 fl_0_27 (layc_Or_0 hO) rfl (lt_Or_0 hO hn) (rf_Or_0_6 hO) ?_
    refine J_aload_n 0 0 O dX0_append_67 rfl rfl ?_
    refine J_getI O 0 0 dX0_append_68 fl_0_30 (layc_Or_0 hO) rfl (lt_Or_0 hO hn) ?_
    refine J_bipush (-4) dX0_append_71 (by decide) ?_
    refine J_iast (O + 6) 12 dX0_append_73 (lay_Or_6 hO) (lt_Or_6 hO hn) (fun m6 => ?_)
    refine J_aload_n 0 0 O dX0_append_74 rfl rfl ?_
    refine J_dup dX0_append_75 rfl ?_
    refine J_getI O 0 0 dX0_append_76 fl_0_30 (layc_Or_0 hO) rfl (lt_Or_0 hO hn) ?_
    refine J_let (fun x7 => ?_)
    refine J_dup_x1 dX0_append_79 rfl rfl ?_
    refine J_iconst 1 dX0_append_80 (by decide) ?_
    refine J_iadd dX0_append_81 ?_
    refine J_putI O 0 0 dX0_append_82 fl_0_30 (layc_Or_0 hO) rfl (lt_Or_0 hO hn) rfl rfl rfl (fun m8 => ?_)
    exact J_iretI dX0_append_85 rfl rfl
  · refine J_bipush (-3) dX0_append_9 (by decide) ?_
    exact J_iretI dX0_append_11 rfl rfl
def f_X0_copyFrom (m : Mm) (O : Nat) (O2 : Nat) : Option (Mm) :=
  letv (up2 m O 0 (m O2 0)) fun m1 => (acopy m1 (O2 + 1) 12 0 (O + 1) 12 0 (m1 O 0)).bind fun m2 => (acopy m2 (O2 + 2) 12 0 (O + 2) 12 0 (m2 O 0)).bind fun m3 => (acopy m3 (O2 + 3) 12 0 (O + 3) 12 0 (m3 O 0)).bind fun m4 => (acopy m4 (O2 + 4) 12 0 (O + 4) 12 0 (m4 O 0)).bind fun m5 => (acopy m5 (O2 + 5) 12 0 (O + 5) 12 0 (m5 O 0)).bind fun m6 => (acopy m6 (O2 + 6) 12 0 (O + 6) 12 0 (m6 O 0)).bind fun m7 => some m7
set_option maxHeartbeats 4000000 in
set_option maxRecDepth 100000 in
theorem ct_X0_copyFrom (F : Nat) {n : Nat} (hn : 113 ≤ n) (P D : Nat) (T : Option Nat) (m : Mm) (O : Nat) (hO : isOr O) (O2 : Nat) (hO2 : isOr O2) : Ct yX0_copyFrom cX0_copyFrom 2 none 1 26 [.ref O, .ref O2] n n m (RF P D T) (rV (RF P D T) (f_X0_copyFrom m O O2)) := by
  refine Ct.ofV (own := RX0) (nm := "copyFrom") [(0, .ref O), (1, .ref O2)] (by decide) (Nat.le_of_ble_eq_true rfl) rfl rfl rfl ?_
  unfold f_X0_copyFrom
  refine J_aload_n 0 0 O dX0_copyFrom_0 rfl rfl ?_
  refine J_aload_n 1 1 O2 dX0_copyFrom_1 rfl rfl ?_
  refine J_getI O2 0 0 dX0_copyFrom_2 fl_0_30 (layc_Or_0 hO2) rfl (lt_Or_0 hO2 hn) ?_
  refine J_putI O 0 0 dX0_copyFrom_5 fl_0_30 (layc_Or_0 hO) rfl (lt_Or_0 hO hn) rfl rfl rfl (fun m1 => ?_)
  refine J_aload_n 1 1 O2 dX0_copyFrom_8 rfl rfl ?_
  refine J_getR O2 0 1 (O2 + 1) dX0_copyFrom_9 fl_0_9 (layc_Or_0 hO2) rfl (lt_Or_0 hO2 hn) (rf_Or_0_1 hO2) ?_
  refine J_iconst 0 dX0_copyFrom_12 (by decide) ?_
  refine J_aload_n 0 0 O dX0_copyFrom_13 rfl rfl ?_
  refine J_getR O 0 1 (O + 1) dX0_copyFrom_14 fl_0_9 (layc_Or_0 hO) rfl (lt_Or_0 hO hn) (rf_Or_0_1 hO) ?_
  refine J_iconst 0 dX0_copyFrom_17 (by decide) ?_
  refine J_aload_n 0 0 O dX0_copyFrom_18 rfl rfl ?_
  refine J_getI O 0 0 dX0_copyFrom_19 fl_0_30 (layc_Or_0 hO) rfl (lt_Or_0 hO hn) ?_
  refine J_acopy (O2 + 1) 12 (O + 1) 12 dX0_copyFrom_22 lk_0_34 (lay_Or_1 hO2) (lay_Or_1 hO) (lt_Or_1 hO2 hn) (lt_Or_1 hO hn) (by decide) (by decide) (fun m2 => ?_)
  refine J_aload_n 1 1 O2 dX0_copyFrom_25 rfl rfl ?_
  refine J_getR O2 0 2 (O2 + 2) dX0_copyFrom_26 fl_0_15 (layc_Or_0 hO2) rfl (lt_Or_0 hO2 hn) (rf_Or_0_2 hO2) ?_
  refine J_iconst 0 dX0_copyFrom_29 (by decide) ?_
  refine J_aload_n 0 0 O dX0_copyFrom_30 rfl rfl ?_
  refine J_getR O 0 2 (O + 2) dX0_copyFrom_31 fl_0_15 (layc_Or_0 hO) rfl (lt_Or_0 hO hn) (rf_Or_0_2 hO) ?_
  refine J_iconst 0 dX0_copyFrom_34 (by decide) ?_
  refine J_aload_n 0 0 O dX0_copyFrom_35 rfl rfl ?_
  refine J_getI O 0 0 dX0_copyFrom_36 fl_0_30 (layc_Or_0 hO) rfl (lt_Or_0 hO hn) ?_
  refine J_acopy (O2 + 2) 12 (O + 2) 12 dX0_copyFrom_39 lk_0_34 (lay_Or_2 hO2) (lay_Or_2 hO) (lt_Or_2 hO2 hn) (lt_Or_2 hO hn) (by decide) (by decide) (fun m3 => ?_)
  refine J_aload_n 1 1 O2 dX0_copyFrom_42 rfl rfl ?_
  refine J_getR O2 0 3 (O2 + 3) dX0_copyFrom_43 fl_0_18 (layc_Or_0 hO2) rfl (lt_Or_0 hO2 hn) (rf_Or_0_3 hO2) ?_
  refine J_iconst 0 dX0_copyFrom_46 (by decide) ?_
  refine J_aload_n 0 0 O dX0_copyFrom_47 rfl rfl ?_
  refine J_getR O 0 3 (O + 3) dX0_copyFrom_48 fl_0_18 (layc_Or_0 hO) rfl (lt_Or_0 hO hn) (rf_Or_0_3 hO) ?_
  refine J_iconst 0 dX0_copyFrom_51 (by decide) ?_
  refine J_aload_n 0 0 O dX0_copyFrom_52 rfl rfl ?_
  refine J_getI O 0 0 dX0_copyFrom_53 fl_0_30 (layc_Or_0 hO) rfl (lt_Or_0 hO hn) ?_
  refine J_acopy (O2 + 3) 12 (O + 3) 12 dX0_copyFrom_56 lk_0_34 (lay_Or_3 hO2) (lay_Or_3 hO) (lt_Or_3 hO2 hn) (lt_Or_3 hO hn) (by decide) (by decide) (fun m4 => ?_)
  refine J_aload_n 1 1 O2 dX0_copyFrom_59 rfl rfl ?_
  refine J_getR O2 0 4 (O2 + 4) dX0_copyFrom_60 fl_0_21 (layc_Or_0 hO2) rfl (lt_Or_0 hO2 hn) (rf_Or_0_4 hO2) ?_
  refine J_iconst 0 dX0_copyFrom_63 (by decide) ?_
  refine J_aload_n 0 0 O dX0_copyFrom_64 rfl rfl ?_
  refine J_getR O 0 4 (O + 4) dX0_copyFrom_65 fl_0_21 (layc_Or_0 hO) rfl (lt_Or_0 hO hn) (rf_Or_0_4 hO) ?_
  refine J_iconst 0 dX0_copyFrom_68 (by decide) ?_
  refine J_aload_n 0 0 O dX0_copyFrom_69 rfl rfl ?_
  refine J_getI O 0 0 dX0_copyFrom_70 fl_0_30 (layc_Or_0 hO) rfl (lt_Or_0 hO hn) ?_
  refine J_acopy (O2 + 4) 12 (O + 4) 12 dX0_copyFrom_73 lk_0_34 (lay_Or_4 hO2) (lay_Or_4 hO) (lt_Or_4 hO2 hn) (lt_Or_4 hO hn) (by decide) (by decide) (fun m5 => ?_)
  refine J_aload_n 1 1 O2 dX0_copyFrom_76 rfl rfl ?_
  refine J_getR O2 0 5 (O2 + 5) dX0_copyFrom_77 fl_0_24 (layc_Or_0 hO2) rfl (lt_Or_0 hO2 hn) (rf_Or_0_5 hO2) ?_
  refine J_iconst 0 dX0_copyFrom_80 (by decide) ?_
  refine J_aload_n 0 0 O dX0_copyFrom_81 rfl rfl ?_
  refine J_getR O 0 5 (O + 5) dX0_copyFrom_82 fl_0_24 (layc_Or_0 hO) rfl (lt_Or_0 hO hn) (rf_Or_0_5 hO) ?_
  refine J_iconst 0 dX0_copyFrom_85 (by decide) ?_
  refine J_aload_n 0 0 O dX0_copyFrom_86 rfl rfl ?_
  refine J_getI O 0 0 dX0_copyFrom_87 fl_0_30 (layc_Or_0 hO) rfl (lt_Or_0 hO hn) ?_
  refine J_acopy (O2 + 5) 12 (O + 5) 12 dX0_copyFrom_90 lk_0_34 (lay_Or_5 hO2) (lay_Or_5 hO) (lt_Or_5 hO2 hn) (lt_Or_5 hO hn) (by decide) (by decide) (fun m6 => ?_)
  refine J_aload_n 1 1 O2 dX0_copyFrom_93 rfl rfl ?_
  refine J_getR O2 0 6 (O2 + 6) dX0_copyFrom_94 fl_0_27 (layc_Or_0 hO2) rfl (lt_Or_0 hO2 hn) (rf_Or_0_6 hO2) ?_
  refine J_iconst 0 dX0_copyFrom_97 (by decide) ?_
  refine J_aload_n 0 0 O dX0_copyFrom_98 rfl rfl ?_
  refine J_getR O 0 6 (O + 6) dX0_copyFrom_99 fl_0_27 (layc_Or_0 hO) rfl (lt_Or_0 hO hn) (rf_Or_0_6 hO) ?_
  refine J_iconst 0 dX0_copyFrom_102 (by decide) ?_
  refine J_aload_n 0 0 O dX0_copyFrom_103 rfl rfl ?_
  refine J_getI O 0 0 dX0_copyFrom_104 fl_0_30 (layc_Or_0 hO) rfl (lt_Or_0 hO hn) ?_
  refine J_acopy (O2 + 6) 12 (O + 6) 12 dX0_copyFrom_107 lk_0_34 (lay_Or_6 hO2) (lay_Or_6 hO) (lt_Or_6 hO2 hn) (lt_Or_6 hO hn) (by decide) (by decide) (fun m7 => ?_)
  exact J_vretV dX0_copyFrom_110 rfl rfl
def b_X0_tally_4 (m : Mm) (O : Nat) (a1 : Int32) (t1 : Int32 × Int32) : Option ((Int32 × Int32) ⊕ (Int32)) :=
  if (m O 0) ≤ t1.2 then (some (Sum.inr t1.1)) else ((ald m (O + 5) 12 t1.2).bind fun x3 => (if x3 = a1 then (some (t1.1 + 1)) else (some t1.1) : Option (Int32)).bind fun y4 => some (Sum.inl (y4, t1.2 + 1)))
def f_X0_tally (F : Nat) (m : Mm) (O : Nat) (a1 : Int32) : Option (Int32) :=
  (iter F (b_X0_tally_4 m O a1) ((0, 0) : Int32 × Int32)).bind (fun e2 : Int32 => some e2)
set_option maxHeartbeats 4000000 in
set_option maxRecDepth 100000 in
theorem ct_X0_tally (F : Nat) {n : Nat} (hn : 113 ≤ n) (P D : Nat) (T : Option Nat) (m : Mm) (O : Nat) (hO : isOr O) (a1 : Int32) : Ct yX0_tally cX0_tally 4 (some .int) 0 0 [.ref O, .int a1] n n m (RF P D T) (rP m (RF P D T) (f_X0_tally F m O a1)) := by
  refine Ct.ofP (own := RX0) (nm := "tally") [(0, .ref O), (1, .int a1)] (by decide) (Nat.le_of_ble_eq_true rfl) rfl rfl rfl ?_
  unfold f_X0_tally
  refine J_iconst 0 dX0_tally_0 (by decide) ?_
  refine J_istore_n 2 [(2, .int 0), (0, .ref O), (1, .int a1)] dX0_tally_1 rfl (by decide) rfl ?_
  refine J_iconst 0 dX0_tally_2 (by decide) ?_
  refine J_istore_n 3 [(3, .int 0), (2, .int 0), (0, .ref O), (1, .int a1)] dX0_tally_3 rfl (by decide) rfl ?_
  refine J_lv [2, 3, 1, 0] rfl ?_
  refine J_loop (pc := 4) (fun t1 : Int32 × Int32 => [(0, .ref O), (1, .int a1), (2, .int t1.1), (3, .int t1.2)]) (fun t1 => m) (fun _ => 31) (fun e2 => [(2, .int e2)]) (fun _ => []) (fun e2 => m) ?_ (fun t1 k1 hBt1 hXt1 => ?_) F ((0, 0))
  · refine fun e2 => ?_
    refine J_iload_n 2 0 e2 dX0_tally_31 rfl rfl ?_
    exact J_iretP dX0_tally_32 rfl rfl
  · unfold b_X0_tally_4
    refine J_iload_n 3 3 t1.2 dX0_tally_4 rfl rfl ?_
    refine J_aload_n 0 0 O dX0_tally_5 rfl rfl ?_
    refine J_getI O 0 0 dX0_tally_6 fl_0_30 (layc_Or_0 hO) rfl (lt_Or_0 hO hn) ?_
    refine J_icmp_ge 31 dX0_tally_9 (by decide) ?_ ?_
    · exact J_lv [2] rfl (hXt1 t1.1)
    · refine J_aload_n 0 0 O dX0_tally_12 rfl rfl ?_
      refine J_getR O 0 5 (O + 5) dX0_tally_13 fl_0_24 (layc_Or_0 hO) rfl (lt_Or_0 hO hn) (rf_Or_0_5 hO) ?_
      refine J_iload_n 3 3 t1.2 dX0_tally_16 rfl rfl ?_
      refine J_iald (O + 5) 12 dX0_tally_17 (lay_Or_5 hO) (lt_Or_5 hO hn) (fun x3 => ?_)
      refine J_iload_n 1 1 a1 dX0_tally_18 rfl rfl ?_
      refine J_seqJ 25 (fun y4 : Int32 => [(0, .ref O), (1, .int a1), (2, .int y4), (3, .int t1.2)]) (fun y4 => []) (fun y4 => m) (fun y4 => ?_) (fun k1 hEy4 => ?_)
      · refine J_iinc 3 3 [(3, .int (t1.2 + 1)), (0, .ref O), (1, .int a1), (2, .int y4)] t1.2 (t1.2 + 1) dX0_tally_25 rfl rfl (by decide) rfl ?_
        refine J_goto 4 dX0_tally_28 (by decide) ?_
        exact J_lv [1, 2, 3, 0] rfl (hBt1 (y4, t1.2 + 1))
      · refine J_icmp_ne 25 dX0_tally_19 (by decide) ?_ ?_
        · exact J_lv [0, 1, 2, 3] rfl (hEy4 t1.1)
        · refine J_iinc 2 2 [(2, .int (t1.1 + 1)), (0, .ref O), (1, .int a1), (3, .int t1.2)] t1.1 (t1.1 + 1) dX0_tally_22 rfl rfl (by decide) rfl ?_
          exact J_lv [1, 2, 0, 3] rfl (hEy4 (t1.1 + 1))
def b_X0_failThoseToCome_8 (O : Nat) (t3 : Int32 × Mm) : Option ((Int32 × Mm) ⊕ (Mm)) :=
  if (t3.2 O 0) ≤ t3.1 then (some (Sum.inr t3.2)) else ((ald t3.2 (O + 5) 12 t3.1).bind fun x5 => (if x5 = 0 then ((ast t3.2 (O + 5) 12 t3.1 3).bind fun m7 => some m7) else (some t3.2) : Option (Mm)).bind fun y6 => some (Sum.inl (t3.1 + 1, y6)))
def f_X0_failThoseToCome (F : Nat) (m : Mm) (O : Nat) : Option (Int32 × Mm) :=
  (f_X0_tally F m O 0).bind fun x1 => (iter F (b_X0_failThoseToCome_8 O) ((0, m) : Int32 × Mm)).bind (fun e4 : Mm => some (x1, e4))
set_option maxHeartbeats 4000000 in
set_option maxRecDepth 100000 in
theorem ct_X0_failThoseToCome (F : Nat) {n : Nat} (hn : 113 ≤ n) (P D : Nat) (T : Option Nat) (m : Mm) (O : Nat) (hO : isOr O) : Ct yX0_failThoseToCome cX0_failThoseToCome 3 (some .int) 1 23 [.ref O] n n m (RF P D T) (rI (RF P D T) (f_X0_failThoseToCome F m O)) := by
  refine Ct.ofI (own := RX0) (nm := "failThoseToCome") [(0, .ref O)] (by decide) (Nat.le_of_ble_eq_true rfl) rfl rfl rfl ?_
  unfold f_X0_failThoseToCome
  refine J_aload_n 0 0 O dX0_failThoseToCome_0 rfl rfl ?_
  refine J_iconst 0 dX0_failThoseToCome_1 (by decide) ?_
  refine J_callVP O 0 1 [.int 0] dX0_failThoseToCome_2 mv_X0_tally mv_X0_tallyv lk_0_40 (ct_X0_tally F hn P D T m O hO 0) rfl (layc_Or_0 hO) (by decide) rfl (lt_Or_0 hO hn) ⟨by decide, by decide⟩ (by decide) (fun x1 => ?_)
  refine J_istore_n 1 [(1, .int x1), (0, .ref O)] dX0_failThoseToCome_5 rfl (by decide) rfl ?_
  refine J_iconst 0 dX0_failThoseToCome_6 (by decide) ?_
  refine J_istore_n 2 [(2, .int 0), (1, .int x1), (0, .ref O)] dX0_failThoseToCome_7 rfl (by decide) rfl ?_
  refine J_lv [2, 1, 0] rfl ?_
  refine J_loop (pc := 8) (fun t3 : Int32 × Mm => [(0, .ref O), (1, .int x1), (2, .int t3.1)]) (fun t3 => t3.2) (fun _ => 38) (fun e4 => [(1, .int x1)]) (fun _ => []) (fun e4 => e4) ?_ (fun t3 k1 hBt3 hXt3 => ?_) F ((0, m))
  · refine fun e4 => ?_
    refine J_iload_n 1 0 x1 dX0_failThoseToCome_38 rfl rfl ?_
    exact J_iretI dX0_failThoseToCome_39 rfl rfl
  · unfold b_X0_failThoseToCome_8
    refine J_iload_n 2 2 t3.1 dX0_failThoseToCome_8 rfl rfl ?_
    refine J_aload_n 0 0 O dX0_failThoseToCome_9 rfl rfl ?_
    refine J_getI O 0 0 dX0_failThoseToCome_10 fl_0_30 (layc_Or_0 hO) rfl (lt_Or_0 hO hn) ?_
    refine J_icmp_ge 38 dX0_failThoseToCome_13 (by decide) ?_ ?_
    · exact J_lv [1] rfl (hXt3 t3.2)
    · refine J_aload_n 0 0 O dX0_failThoseToCome_16 rfl rfl ?_
      refine J_getR O 0 5 (O + 5) dX0_failThoseToCome_17 fl_0_24 (layc_Or_0 hO) rfl (lt_Or_0 hO hn) (rf_Or_0_5 hO) ?_
      refine J_iload_n 2 2 t3.1 dX0_failThoseToCome_20 rfl rfl ?_
      refine J_iald (O + 5) 12 dX0_failThoseToCome_21 (lay_Or_5 hO) (lt_Or_5 hO hn) (fun x5 => ?_)
      refine J_seqJ 32 (fun y6 : Mm => [(0, .ref O), (1, .int x1), (2, .int t3.1)]) (fun y6 => []) (fun y6 => y6) (fun y6 => ?_) (fun k1 hEy6 => ?_)
      · refine J_iinc 2 2 [(2, .int (t3.1 + 1)), (0, .ref O), (1, .int x1)] t3.1 (t3.1 + 1) dX0_failThoseToCome_32 rfl rfl (by decide) rfl ?_
        refine J_goto 8 dX0_failThoseToCome_35 (by decide) ?_
        exact J_lv [1, 2, 0] rfl (hBt3 (t3.1 + 1, y6))
      · refine J_if_ne 32 dX0_failThoseToCome_22 (by decide) ?_ ?_
        · exact J_lv [0, 1, 2] rfl (hEy6 t3.2)
        · refine J_aload_n 0 0 O dX0_failThoseToCome_25 rfl rfl ?_
          refine J_getR O 0 5 (O + 5) dX0_failThoseToCome_26 fl_0_24 (layc_Or_0 hO) rfl (lt_Or_0 hO hn) (rf_Or_0_5 hO) ?_
          refine J_iload_n 2 2 t3.1 dX0_failThoseToCome_29 rfl rfl ?_
          refine J_iconst 3 dX0_failThoseToCome_30 (by decide) ?_
          refine J_iast (O + 5) 12 dX0_failThoseToCome_31 (lay_Or_5 hO) (lt_Or_5 hO hn) (fun m7 => ?_)
          exact J_lv [0, 1, 2] rfl (hEy6 m7)
def b_X0_isOnDoor_2 (m : Mm) (O : Nat) (a1 : Int32) (t1 : Int32) : Option ((Int32) ⊕ ((Unit) ⊕ (Unit))) :=
  if (m O 0) ≤ t1 then (some (Sum.inr (Sum.inr (())))) else ((ald m (O + 5) 12 t1).bind fun x4 => if x4 = (1 : Int32) then ((ald m (O + 2) 12 t1).bind fun x5 => if x5 = 0 then ((ald m (O + 3) 12 t1).bind fun x6 => if x6 = a1 then (some (Sum.inr (Sum.inl (())))) else (some (Sum.inl (t1 + 1)))) else ((ald m (O + 2) 12 t1).bind fun x7 => if x7 = (1 : Int32) then ((ald m (O + 3) 12 t1).bind fun x8 => if x8 = a1 then (some (Sum.inr (Sum.inl (())))) else (some (Sum.inl (t1 + 1)))) else (some (Sum.inl (t1 + 1))))) else (some (Sum.inl (t1 + 1))))
def f_X0_isOnDoor (F : Nat) (m : Mm) (O : Nat) (a1 : Int32) : Option (Int32) :=
  (iter F (b_X0_isOnDoor_2 m O a1) (0 : Int32)).bind (Sum.elim (fun e2 : Unit => some 1) (fun e3 : Unit => some 0))
set_option maxHeartbeats 4000000 in
set_option maxRecDepth 100000 in
theorem ct_X0_isOnDoor (F : Nat) {n : Nat} (hn : 113 ≤ n) (P D : Nat) (T : Option Nat) (m : Mm) (O : Nat) (hO : isOr O) (a1 : Int32) : Ct yX0_isOnDoor cX0_isOnDoor 3 (some .boolean) 0 0 [.ref O, .int a1] n n m (RF P D T) (rP m (RF P D T) (f_X0_isOnDoor F m O a1)) := by
  refine Ct.ofP (own := RX0) (nm := "isOnDoor") [(0, .ref O), (1, .int a1)] (by decide) (Nat.le_of_ble_eq_true rfl) rfl rfl rfl ?_
  unfold f_X0_isOnDoor
  refine J_iconst 0 dX0_isOnDoor_0 (by decide) ?_
  refine J_istore_n 2 [(2, .int 0), (0, .ref O), (1, .int a1)] dX0_isOnDoor_1 rfl (by decide) rfl ?_
  refine J_lv [1, 2, 0] rfl ?_
  refine J_loop (pc := 2) (fun t1 : Int32 => [(0, .ref O), (1, .int a1), (2, .int t1)]) (fun t1 => m) (Sum.elim (fun _ => 49) (fun _ => 57)) (Sum.elim (fun e2 : Unit => []) (fun e3 : Unit => [])) (fun _ => []) (Sum.elim (fun e2 : Unit => m) (fun e3 : Unit => m)) ?_ (fun t1 k1 hBt1 hXt1 => ?_) F 0
  · refine sum_all ?_ ?_
    · intro e2
      refine J_iconst 1 dX0_isOnDoor_49 (by decide) ?_
      exact J_zretP dX0_isOnDoor_50 rfl rfl rfl
    · intro e3
      refine J_iconst 0 dX0_isOnDoor_57 (by decide) ?_
      exact J_zretP dX0_isOnDoor_58 rfl rfl rfl
  · unfold b_X0_isOnDoor_2
    refine J_iload_n 2 2 t1 dX0_isOnDoor_2 rfl rfl ?_
    refine J_aload_n 0 0 O dX0_isOnDoor_3 rfl rfl ?_
    refine J_getI O 0 0 dX0_isOnDoor_4 fl_0_30 (layc_Or_0 hO) rfl (lt_Or_0 hO hn) ?_
    refine J_icmp_ge 57 dX0_isOnDoor_7 (by decide) ?_ ?_
    · exact J_lv [] rfl (hXt1 (Sum.inr (())))
    · refine J_aload_n 0 0 O dX0_isOnDoor_10 rfl rfl ?_
      refine J_getR O 0 5 (O + 5) dX0_isOnDoor_11 fl_0_24 (layc_Or_0 hO) rfl (lt_Or_0 hO hn) (rf_Or_0_5 hO) ?_
      refine J_iload_n 2 2 t1 dX0_isOnDoor_14 rfl rfl ?_
      refine J_iald (O + 5) 12 dX0_isOnDoor_15 (lay_Or_5 hO) (lt_Or_5 hO hn) (fun x4 => ?_)
      refine J_iconst 1 dX0_isOnDoor_16 (by decide) ?_
      refine J_icmp_ne 51 dX0_isOnDoor_17 (by decide) ?_ ?_
      · refine J_iinc 2 2 [(2, .int (t1 + 1)), (0, .ref O), (1, .int a1)] t1 (t1 + 1) dX0_isOnDoor_51 rfl rfl (by decide) rfl ?_
        refine J_goto 2 dX0_isOnDoor_54 (by decide) ?_
        exact J_lv [1, 2, 0] rfl (hBt1 (t1 + 1))
      · refine J_aload_n 0 0 O dX0_isOnDoor_20 rfl rfl ?_
        refine J_getR O 0 2 (O + 2) dX0_isOnDoor_21 fl_0_15 (layc_Or_0 hO) rfl (lt_Or_0 hO hn) (rf_Or_0_2 hO) ?_
        refine J_iload_n 2 2 t1 dX0_isOnDoor_24 rfl rfl ?_
        refine J_iald (O + 2) 12 dX0_isOnDoor_25 (lay_Or_2 hO) (lt_Or_2 hO hn) (fun x5 => ?_)
        refine J_if_eq 39 dX0_isOnDoor_26 (by decide) ?_ ?_
        · refine J_aload_n 0 0 O dX0_isOnDoor_39 rfl rfl ?_
          refine J_getR O 0 3 (O + 3) dX0_isOnDoor_40 fl_0_18 (layc_Or_0 hO) rfl (lt_Or_0 hO hn) (rf_Or_0_3 hO) ?_
          refine J_iload_n 2 2 t1 dX0_isOnDoor_43 rfl rfl ?_
          refine J_iald (O + 3) 12 dX0_isOnDoor_44 (lay_Or_3 hO) (lt_Or_3 hO hn) (fun x6 => ?_)
          refine J_iload_n 1 1 a1 dX0_isOnDoor_45 rfl rfl ?_
          refine J_icmp_ne 51 dX0_isOnDoor_46 (by decide) ?_ ?_
          · refine J_iinc 2 2 [(2, .int (t1 + 1)), (0, .ref O), (1, .int a1)] t1 (t1 + 1) dX0_isOnDoor_51 rfl rfl (by decide) rfl ?_
            refine J_goto 2 dX0_isOnDoor_54 (by decide) ?_
            exact J_lv [1, 2, 0] rfl (hBt1 (t1 + 1))
          · exact J_lv [] rfl (hXt1 (Sum.inl (())))
        · refine J_aload_n 0 0 O dX0_isOnDoor_29 rfl rfl ?_
          refine J_getR O 0 2 (O + 2) dX0_isOnDoor_30 fl_0_15 (layc_Or_0 hO) rfl (lt_Or_0 hO hn) (rf_Or_0_2 hO) ?_
          refine J_iload_n 2 2 t1 dX0_isOnDoor_33 rfl rfl ?_
          refine J_iald (O + 2) 12 dX0_isOnDoor_34 (lay_Or_2 hO) (lt_Or_2 hO hn) (fun x7 => ?_)
          refine J_iconst 1 dX0_isOnDoor_35 (by decide) ?_
          refine J_icmp_ne 51 dX0_isOnDoor_36 (by decide) ?_ ?_
          · refine J_iinc 2 2 [(2, .int (t1 + 1)), (0, .ref O), (1, .int a1)] t1 (t1 + 1) dX0_isOnDoor_51 rfl rfl (by decide) rfl ?_
            refine J_goto 2 dX0_isOnDoor_54 (by decide) ?_
            exact J_lv [1, 2, 0] rfl (hBt1 (t1 + 1))
          · refine J_aload_n 0 0 O dX0_isOnDoor_39 rfl rfl ?_
            refine J_getR O 0 3 (O + 3) dX0_isOnDoor_40 fl_0_18 (layc_Or_0 hO) rfl (lt_Or_0 hO hn) (rf_Or_0_3 hO) ?_
            refine J_iload_n 2 2 t1 dX0_isOnDoor_43 rfl rfl ?_
            refine J_iald (O + 3) 12 dX0_isOnDoor_44 (lay_Or_3 hO) (lt_Or_3 hO hn) (fun x8 => ?_)
            refine J_iload_n 1 1 a1 dX0_isOnDoor_45 rfl rfl ?_
            refine J_icmp_ne 51 dX0_isOnDoor_46 (by decide) ?_ ?_
            · refine J_iinc 2 2 [(2, .int (t1 + 1)), (0, .ref O), (1, .int a1)] t1 (t1 + 1) dX0_isOnDoor_51 rfl rfl (by decide) rfl ?_
              refine J_goto 2 dX0_isOnDoor_54 (by decide) ?_
              exact J_lv [1, 2, 0] rfl (hBt1 (t1 + 1))
            · exact J_lv [] rfl (hXt1 (Sum.inl (())))
def b_X0_isOnHole_2 (m : Mm) (O : Nat) (a1 : Int32) (t1 : Int32) : Option ((Int32) ⊕ ((Unit) ⊕ (Unit))) :=
  if (m O 0) ≤ t1 then (some (Sum.inr (Sum.inr (())))) else ((ald m (O + 5) 12 t1).bind fun x4 => if x4 = (1 : Int32) then ((ald m (O + 2) 12 t1).bind fun x5 => if x5 = (2 : Int32) then ((ald m (O + 3) 12 t1).bind fun x6 => if x6 = a1 then (some (Sum.inr (Sum.inl (())))) else (some (Sum.inl (t1 + 1)))) else (some (Sum.inl (t1 + 1)))) else (some (Sum.inl (t1 + 1))))
def f_X0_isOnHole (F : Nat) (m : Mm) (O : Nat) (a1 : Int32) : Option (Int32) :=
  (iter F (b_X0_isOnHole_2 m O a1) (0 : Int32)).bind (Sum.elim (fun e2 : Unit => some 1) (fun e3 : Unit => some 0))
set_option maxHeartbeats 4000000 in
set_option maxRecDepth 100000 in
theorem ct_X0_isOnHole (F : Nat) {n : Nat} (hn : 113 ≤ n) (P D : Nat) (T : Option Nat) (m : Mm) (O : Nat) (hO : isOr O) (a1 : Int32) : Ct yX0_isOnHole cX0_isOnHole 3 (some .boolean) 0 0 [.ref O, .int a1] n n m (RF P D T) (rP m (RF P D T) (f_X0_isOnHole F m O a1)) := by
  refine Ct.ofP (own := RX0) (nm := "isOnHole") [(0, .ref O), (1, .int a1)] (by decide) (Nat.le_of_ble_eq_true rfl) rfl rfl rfl ?_
  unfold f_X0_isOnHole
  refine J_iconst 0 dX0_isOnHole_0 (by decide) ?_
  refine J_istore_n 2 [(2, .int 0), (0, .ref O), (1, .int a1)] dX0_isOnHole_1 rfl (by decide) rfl ?_
  refine J_lv [1, 2, 0] rfl ?_
  refine J_loop (pc := 2) (fun t1 : Int32 => [(0, .ref O), (1, .int a1), (2, .int t1)]) (fun t1 => m) (Sum.elim (fun _ => 40) (fun _ => 48)) (Sum.elim (fun e2 : Unit => []) (fun e3 : Unit => [])) (fun _ => []) (Sum.elim (fun e2 : Unit => m) (fun e3 : Unit => m)) ?_ (fun t1 k1 hBt1 hXt1 => ?_) F 0
  · refine sum_all ?_ ?_
    · intro e2
      refine J_iconst 1 dX0_isOnHole_40 (by decide) ?_
      exact J_zretP dX0_isOnHole_41 rfl rfl rfl
    · intro e3
      refine J_iconst 0 dX0_isOnHole_48 (by decide) ?_
      exact J_zretP dX0_isOnHole_49 rfl rfl rfl
  · unfold b_X0_isOnHole_2
    refine J_iload_n 2 2 t1 dX0_isOnHole_2 rfl rfl ?_
    refine J_aload_n 0 0 O dX0_isOnHole_3 rfl rfl ?_
    refine J_getI O 0 0 dX0_isOnHole_4 fl_0_30 (layc_Or_0 hO) rfl (lt_Or_0 hO hn) ?_
    refine J_icmp_ge 48 dX0_isOnHole_7 (by decide) ?_ ?_
    · exact J_lv [] rfl (hXt1 (Sum.inr (())))
    · refine J_aload_n 0 0 O dX0_isOnHole_10 rfl rfl ?_
      refine J_getR O 0 5 (O + 5) dX0_isOnHole_11 fl_0_24 (layc_Or_0 hO) rfl (lt_Or_0 hO hn) (rf_Or_0_5 hO) ?_
      refine J_iload_n 2 2 t1 dX0_isOnHole_14 rfl rfl ?_
      refine J_iald (O + 5) 12 dX0_isOnHole_15 (lay_Or_5 hO) (lt_Or_5 hO hn) (fun x4 => ?_)
      refine J_iconst 1 dX0_isOnHole_16 (by decide) ?_
      refine J_icmp_ne 42 dX0_isOnHole_17 (by decide) ?_ ?_
      · refine J_iinc 2 2 [(2, .int (t1 + 1)), (0, .ref O), (1, .int a1)] t1 (t1 + 1) dX0_isOnHole_42 rfl rfl (by decide) rfl ?_
        refine J_goto 2 dX0_isOnHole_45 (by decide) ?_
        exact J_lv [1, 2, 0] rfl (hBt1 (t1 + 1))
      · refine J_aload_n 0 0 O dX0_isOnHole_20 rfl rfl ?_
        refine J_getR O 0 2 (O + 2) dX0_isOnHole_21 fl_0_15 (layc_Or_0 hO) rfl (lt_Or_0 hO hn) (rf_Or_0_2 hO) ?_
        refine J_iload_n 2 2 t1 dX0_isOnHole_24 rfl rfl ?_
        refine J_iald (O + 2) 12 dX0_isOnHole_25 (lay_Or_2 hO) (lt_Or_2 hO hn) (fun x5 => ?_)
        refine J_iconst 2 dX0_isOnHole_26 (by decide) ?_
        refine J_icmp_ne 42 dX0_isOnHole_27 (by decide) ?_ ?_
        · refine J_iinc 2 2 [(2, .int (t1 + 1)), (0, .ref O), (1, .int a1)] t1 (t1 + 1) dX0_isOnHole_42 rfl rfl (by decide) rfl ?_
          refine J_goto 2 dX0_isOnHole_45 (by decide) ?_
          exact J_lv [1, 2, 0] rfl (hBt1 (t1 + 1))
        · refine J_aload_n 0 0 O dX0_isOnHole_30 rfl rfl ?_
          refine J_getR O 0 3 (O + 3) dX0_isOnHole_31 fl_0_18 (layc_Or_0 hO) rfl (lt_Or_0 hO hn) (rf_Or_0_3 hO) ?_
          refine J_iload_n 2 2 t1 dX0_isOnHole_34 rfl rfl ?_
          refine J_iald (O + 3) 12 dX0_isOnHole_35 (lay_Or_3 hO) (lt_Or_3 hO hn) (fun x6 => ?_)
          refine J_iload_n 1 1 a1 dX0_isOnHole_36 rfl rfl ?_
          refine J_icmp_ne 42 dX0_isOnHole_37 (by decide) ?_ ?_
          · refine J_iinc 2 2 [(2, .int (t1 + 1)), (0, .ref O), (1, .int a1)] t1 (t1 + 1) dX0_isOnHole_42 rfl rfl (by decide) rfl ?_
            refine J_goto 2 dX0_isOnHole_45 (by decide) ?_
            exact J_lv [1, 2, 0] rfl (hBt1 (t1 + 1))
          · exact J_lv [] rfl (hXt1 (Sum.inl (())))
def f_X8_heightIn (a0 : Int32) (a1 : Int32) : Option (Int32) :=
  if 0 < a0 then ((odiv ((12 : Int32) * a1) a0).bind fun x1 => some x1) else (some 0)
set_option maxHeartbeats 4000000 in
set_option maxRecDepth 100000 in
theorem ct_X8_heightIn (F : Nat) {n : Nat} (hn : 113 ≤ n) (P D : Nat) (T : Option Nat) (m : Mm) (a0 : Int32) (a1 : Int32) : Ct yX8_heightIn cX8_heightIn 2 (some .int) 0 0 [.int a0, .int a1] n n m (RF P D T) (rP m (RF P D T) (f_X8_heightIn a0 a1)) := by
  refine Ct.ofP (own := RX8) (nm := "heightIn") [(0, .int a0), (1, .int a1)] (by decide) (Nat.le_of_ble_eq_true rfl) rfl rfl rfl ?_
  unfold f_X8_heightIn
  refine J_iload_n 0 0 a0 dX8_heightIn_0 rfl rfl ?_
  refine J_if_gt 8 dX8_heightIn_1 (by decide) ?_ ?_
  · refine J_bipush 12 dX8_heightIn_8 (by decide) ?_
    refine J_iload_n 1 1 a1 dX8_heightIn_10 rfl rfl ?_
    refine J_imul dX8_heightIn_11 ?_
    refine J_iload_n 0 0 a0 dX8_heightIn_12 rfl rfl ?_
    refine J_idiv dX8_heightIn_13 (fun x1 => ?_)
    exact J_iretP dX8_heightIn_14 rfl rfl
  · refine J_iconst 0 dX8_heightIn_4 (by decide) ?_
    refine J_goto 14 dX8_heightIn_5 (by decide) ?_
    exact J_iretP dX8_heightIn_14 rfl rfl
def f_X8_tonsIn (a0 : Int32) (a1 : Int32) (a2 : Int32) : Option (Int32) :=
  (odiv (((a0 * ((12 : Int32) - a1)) + (12 : Int32)) - (1 : Int32)) (12 : Int32)).bind fun x1 => if a2 ≤ x1 then (some a2) else (some x1)
set_option maxHeartbeats 4000000 in
set_option maxRecDepth 100000 in
theorem ct_X8_tonsIn (F : Nat) {n : Nat} (hn : 113 ≤ n) (P D : Nat) (T : Option Nat) (m : Mm) (a0 : Int32) (a1 : Int32) (a2 : Int32) : Ct yX8_tonsIn cX8_tonsIn 4 (some .int) 0 0 [.int a0, .int a1, .int a2] n n m (RF P D T) (rP m (RF P D T) (f_X8_tonsIn a0 a1 a2)) := by
  refine Ct.ofP (own := RX8) (nm := "tonsIn") [(0, .int a0), (1, .int a1), (2, .int a2)] (by decide) (Nat.le_of_ble_eq_true rfl) rfl rfl rfl ?_
  unfold f_X8_tonsIn
  refine J_iload_n 0 0 a0 dX8_tonsIn_0 rfl rfl ?_
  refine J_bipush 12 dX8_tonsIn_1 (by decide) ?_
  refine J_iload_n 1 1 a1 dX8_tonsIn_3 rfl rfl ?_
  refine J_isub dX8_tonsIn_4 ?_
  refine J_imul dX8_tonsIn_5 ?_
  refine J_bipush 12 dX8_tonsIn_6 (by decide) ?_
  refine J_iadd dX8_tonsIn_8 ?_
  refine J_iconst 1 dX8_tonsIn_9 (by decide) ?_
  refine J_isub dX8_tonsIn_10 ?_
  refine J_bipush 12 dX8_tonsIn_11 (by decide) ?_
  refine J_idiv dX8_tonsIn_13 (fun x1 => ?_)
  refine J_istore_n 3 [(3, .int x1), (0, .int a0), (1, .int a1), (2, .int a2)] dX8_tonsIn_14 rfl (by decide) rfl ?_
  refine J_iload_n 3 0 x1 dX8_tonsIn_15 rfl rfl ?_
  refine J_iload_n 2 3 a2 dX8_tonsIn_16 rfl rfl ?_
  refine J_icmp_ge 24 dX8_tonsIn_17 (by decide) ?_ ?_
  · refine J_iload_n 2 3 a2 dX8_tonsIn_24 rfl rfl ?_
    exact J_iretP dX8_tonsIn_25 rfl rfl
  · refine J_iload_n 3 0 x1 dX8_tonsIn_20 rfl rfl ?_
    refine J_goto 25 dX8_tonsIn_21 (by decide) ?_
    exact J_iretP dX8_tonsIn_25 rfl rfl
def f_X9_heightOf (m : Mm) (a1 : Int32) (a2 : Int32) : Option (Int32) :=
  (ald m 114 512 ((a1 + (0 : Int32)) + a2)).bind fun x1 => (ald m 116 32 ((4 : Int32) * a2)).bind fun x2 => (odiv ((12 : Int32) * x1) x2).bind fun x3 => some x3
set_option maxHeartbeats 4000000 in
set_option maxRecDepth 100000 in
theorem ct_X9_heightOf (F : Nat) {n : Nat} (hn : 135 ≤ n) (P D : Nat) (T : Option Nat) (m : Mm) (a1 : Int32) (a2 : Int32) : Ct yX9_heightOf cX9_heightOf 3 (some .int) 0 0 [.ref 113, .int a1, .int a2] n n m (RF P D T) (rP m (RF P D T) (f_X9_heightOf m a1 a2)) := by
  refine Ct.ofP (own := RX9) (nm := "heightOf") [(0, .ref 113), (1, .int a1), (2, .int a2)] (by decide) (Nat.le_of_ble_eq_true rfl) rfl rfl rfl ?_
  unfold f_X9_heightOf
  refine J_bipush 12 dX9_heightOf_0 (by decide) ?_
  refine J_aload_n 0 0 113 dX9_heightOf_2 rfl rfl ?_
  refine J_getR 113 9 0 114 dX9_heightOf_3 fl_9_7 rfl rfl (Nat.lt_of_lt_of_le (Nat.le_of_ble_eq_true rfl) hn) rfl ?_
  refine J_iload_n 1 1 a1 dX9_heightOf_6 rfl rfl ?_
  refine J_iconst 0 dX9_heightOf_7 (by decide) ?_
  refine J_iadd dX9_heightOf_8 ?_
  refine J_iload_n 2 2 a2 dX9_heightOf_9 rfl rfl ?_
  refine J_iadd dX9_heightOf_10 ?_
  refine J_iald 114 512 dX9_heightOf_11 rfl (Nat.lt_of_lt_of_le (Nat.le_of_ble_eq_true rfl) hn) (fun x1 => ?_)
  refine J_imul dX9_heightOf_12 ?_
  refine J_aload_n 0 0 113 dX9_heightOf_13 rfl rfl ?_
  refine J_getR 113 9 3 116 dX9_heightOf_14 fl_9_17 rfl rfl (Nat.lt_of_lt_of_le (Nat.le_of_ble_eq_true rfl) hn) rfl ?_
  refine J_iconst 4 dX9_heightOf_17 (by decide) ?_
  refine J_iload_n 2 2 a2 dX9_heightOf_18 rfl rfl ?_
  refine J_imul dX9_heightOf_19 ?_
  refine J_iald 116 32 dX9_heightOf_20 rfl (Nat.lt_of_lt_of_le (Nat.le_of_ble_eq_true rfl) hn) (fun x2 => ?_)
  refine J_idiv dX9_heightOf_21 (fun x3 => ?_)
  exact J_iretP dX9_heightOf_22 rfl rfl
def f_X9_aTon (m : Mm) (a1 : Int32) (a2 : Int32) : Option (Mm) :=
  (ald m 117 60 ((6 : Int32) * a2)).bind fun x1 => (ald m 117 60 (((6 : Int32) * a2) + (1 : Int32))).bind fun x2 => (f_X9_heightOf m a1 x1).bind fun x3 => (f_X9_heightOf m a1 x2).bind fun x5 => (if x3 ≤ x5 then (some 0) else (some 1) : Option (Int32)).bind fun y7 => (if y7 = 0 then (some x2) else (some x1) : Option (Int32)).bind fun y8 => (if y7 = 0 then (some x1) else (some x2) : Option (Int32)).bind fun y9 => (f_X9_heightOf m a1 y8).bind fun x10 => (f_X9_heightOf m a1 y9).bind fun x12 => (if x10 ≤ x12 then (some 0) else ((f_X9_heightOf m a1 y8).bind fun x15 => (ald m 117 60 (((6 : Int32) * a2) + (2 : Int32))).bind fun x17 => if x15 ≤ x17 then (some 0) else ((f_X9_room m a1 y9).bind fun x18 => if x18 ≤ 0 then (some 0) else (some 1))) : Option (Int32)).bind fun y14 => (ald m 114 512 ((a1 + (0 : Int32)) + y8)).bind fun x20 => (f_X9_flag y14).bind fun x21 => (ast m 114 512 ((a1 + (0 : Int32)) + y8) (x20 - x21)).bind fun m23 => (ald m23 114 512 ((a1 + (0 : Int32)) + y9)).bind fun x24 => (f_X9_flag y14).bind fun x25 => (ast m23 114 512 ((a1 + (0 : Int32)) + y9) (x24 + x25)).bind fun m27 => some m27
set_option maxHeartbeats 4000000 in
set_option maxRecDepth 100000 in
theorem ct_X9_aTon (F : Nat) {n : Nat} (hn : 135 ≤ n) (P D : Nat) (T : Option Nat) (m : Mm) (a1 : Int32) (a2 : Int32) : Ct yX9_aTon cX9_aTon 9 none 1 22 [.ref 113, .int a1, .int a2] n n m (RF P D T) (rV (RF P D T) (f_X9_aTon m a1 a2)) := by
  refine Ct.ofV (own := RX9) (nm := "aTon") [(0, .ref 113), (1, .int a1), (2, .int a2)] (by decide) (Nat.le_of_ble_eq_true rfl) rfl rfl rfl ?_
  unfold f_X9_aTon
  refine J_aload_n 0 0 113 dX9_aTon_0 rfl rfl ?_
  refine J_getR 113 9 5 117 dX9_aTon_1 fl_9_20 rfl rfl (Nat.lt_of_lt_of_le (Nat.le_of_ble_eq_true rfl) hn) rfl ?_
  refine J_bipush 6 dX9_aTon_4 (by decide) ?_
  refine J_iload_n 2 2 a2 dX9_aTon_6 rfl rfl ?_
  refine J_imul dX9_aTon_7 ?_
  refine J_iald 117 60 dX9_aTon_8 rfl (Nat.lt_of_lt_of_le (Nat.le_of_ble_eq_true rfl) hn) (fun x1 => ?_)
  refine J_istore_n 3 [(3, .int x1), (0, .ref 113), (1, .int a1), (2, .int a2)] dX9_aTon_9 rfl (by decide) rfl ?_
  refine J_aload_n 0 1 113 dX9_aTon_10 rfl rfl ?_
  refine J_getR 113 9 5 117 dX9_aTon_11 fl_9_20 rfl rfl (Nat.lt_of_lt_of_le (Nat.le_of_ble_eq_true rfl) hn) rfl ?_
  refine J_bipush 6 dX9_aTon_14 (by decide) ?_
  refine J_iload_n 2 3 a2 dX9_aTon_16 rfl rfl ?_
  refine J_imul dX9_aTon_17 ?_
  refine J_iconst 1 dX9_aTon_18 (by decide) ?_
  refine J_iadd dX9_aTon_19 ?_
  refine J_iald 117 60 dX9_aTon_20 rfl (Nat.lt_of_lt_of_le (Nat.le_of_ble_eq_true rfl) hn) (fun x2 => ?_)
  refine J_istore 4 [(4, .int x2), (3, .int x1), (0, .ref 113), (1, .int a1), (2, .int a2)] dX9_aTon_21 (by decide) rfl ?_
  refine J_aload_n 0 2 113 dX9_aTon_23 rfl rfl ?_
  refine J_iload_n 1 3 a1 dX9_aTon_24 rfl rfl ?_
  refine J_iload_n 3 1 x1 dX9_aTon_25 rfl rfl ?_
  refine J_callVP 113 9 2 [.int a1, .int x1] dX9_aTon_26 mv_X9_heightOf mv_X9_heightOfv lk_9_214 (ct_X9_heightOf F hn P D T m a1 x1) rfl rfl (by decide) rfl (Nat.lt_of_lt_of_le (Nat.le_of_ble_eq_true rfl) hn) ⟨by decide, by decide⟩ (by decide) (fun x3 => ?_)
  refine J_aload_n 0 2 113 dX9_aTon_29 rfl rfl ?_
  refine J_iload_n 1 3 a1 dX9_aTon_30 rfl rfl ?_
  refine J_iload 4 0 x2 dX9_aTon_31 rfl ?_
  refine J_callVP 113 9 2 [.int a1, .int x2] dX9_aTon_33 mv_X9_heightOf mv_X9_heightOfv lk_9_214 (ct_X9_heightOf F hn P D T m a1 x2) rfl rfl (by decide) rfl (Nat.lt_of_lt_of_le (Nat.le_of_ble_eq_true rfl) hn) ⟨by decide, by decide⟩ (by decide) (fun x5 => ?_)
  refine J_seqJ 44 (fun y7 : Int32 => [(0, .ref 113), (1, .int a1), (2, .int a2), (3, .int x1), (4, .int x2)]) (fun y7 => [.int y7]) (fun y7 => m) (fun y7 => ?_) (fun k1 hEy7 => ?_)
  · refine J_istore 5 [(5, .int y7), (0, .ref 113), (1, .int a1), (2, .int a2), (3, .int x1), (4, .int x2)] dX9_aTon_44 (by decide) rfl ?_
    refine J_iload 5 0 y7 dX9_aTon_46 rfl ?_
    refine J_seqJ 57 (fun y8 : Int32 => [(0, .ref 113), (1, .int a1), (2, .int a2), (3, .int x1), (4, .int x2), (5, .int y7)]) (fun y8 => [.int y8]) (fun y8 => m) (fun y8 => ?_) (fun k1 hEy8 => ?_)
    · refine J_istore 6 [(6, .int y8), (0, .ref 113), (1, .int a1), (2, .int a2), (3, .int x1), (4, .int x2), (5, .int y7)] dX9_aTon_57 (by decide) rfl ?_
      refine J_iload 5 6 y7 dX9_aTon_59 rfl ?_
      refine J_seqJ 70 (fun y9 : Int32 => [(0, .ref 113), (1, .int a1), (2, .int a2), (6, .int y8)]) (fun y9 => [.int y9]) (fun y9 => m) (fun y9 => ?_) (fun k1 hEy9 => ?_)
      · refine J_istore 7 [(7, .int y9), (0, .ref 113), (1, .int a1), (2, .int a2), (6, .int y8)] dX9_aTon_70 (by decide) rfl ?_
        refine J_aload_n 0 1 113 dX9_aTon_72 rfl rfl ?_
        refine J_iload_n 1 2 a1 dX9_aTon_73 rfl rfl ?_
        refine J_iload 6 4 y8 dX9_aTon_74 rfl ?_
        refine J_callVP 113 9 2 [.int a1, .int y8] dX9_aTon_76 mv_X9_heightOf mv_X9_heightOfv lk_9_214 (ct_X9_heightOf F hn P D T m a1 y8) rfl rfl (by decide) rfl (Nat.lt_of_lt_of_le (Nat.le_of_ble_eq_true rfl) hn) ⟨by decide, by decide⟩ (by decide) (fun x10 => ?_)
        refine J_aload_n 0 1 113 dX9_aTon_79 rfl rfl ?_
        refine J_iload_n 1 2 a1 dX9_aTon_80 rfl rfl ?_
        refine J_iload 7 0 y9 dX9_aTon_81 rfl ?_
        refine J_callVP 113 9 2 [.int a1, .int y9] dX9_aTon_83 mv_X9_heightOf mv_X9_heightOfv lk_9_214 (ct_X9_heightOf F hn P D T m a1 y9) rfl rfl (by decide) rfl (Nat.lt_of_lt_of_le (Nat.le_of_ble_eq_true rfl) hn) ⟨by decide, by decide⟩ (by decide) (fun x12 => ?_)
        refine J_seqJ 125 (fun y14 : Int32 => [(0, .ref 113), (1, .int a1), (6, .int y8), (7, .int y9)]) (fun y14 => [.int y14]) (fun y14 => m) (fun y14 => ?_) (fun k1 hEy14 => ?_)
        · refine J_istore 8 [(8, .int y14), (0, .ref 113), (1, .int a1), (6, .int y8), (7, .int y9)] dX9_aTon_125 (by decide) rfl ?_
          refine J_aload_n 0 1 113 dX9_aTon_127 rfl rfl ?_
          refine J_getR 113 9 0 114 dX9_aTon_128 fl_9_7 rfl rfl (Nat.lt_of_lt_of_le (Nat.le_of_ble_eq_true rfl) hn) rfl ?_
          refine J_iload_n 1 2 a1 dX9_aTon_131 rfl rfl ?_
          refine J_iconst 0 dX9_aTon_132 (by decide) ?_
          refine J_iadd dX9_aTon_133 ?_
          refine J_iload 6 3 y8 dX9_aTon_134 rfl ?_
          refine J_iadd dX9_aTon_136 ?_
          refine J_dup2 dX9_aTon_137 rfl rfl ?_
          refine J_iald 114 512 dX9_aTon_138 rfl (Nat.lt_of_lt_of_le (Nat.le_of_ble_eq_true rfl) hn) (fun x20 => ?_)
          refine J_iload 8 0 y14 dX9_aTon_139 rfl ?_
          refine J_callSP 1 [.int y14] dX9_aTon_141 mv_X9_flag mv_X9_flags lk_9_174 (ct_X9_flag F hn P D T m y14) rfl ⟨by decide, by decide⟩ (by decide) (fun x21 => ?_)
          refine J_isub dX9_aTon_144 ?_
          refine J_iast 114 512 dX9_aTon_145 rfl (Nat.lt_of_lt_of_le (Nat.le_of_ble_eq_true rfl) hn) (fun m23 => ?_)
          refine J_aload_n 0 1 113 dX9_aTon_146 rfl rfl ?_
          refine J_getR 113 9 0 114 dX9_aTon_147 fl_9_7 rfl rfl (Nat.lt_of_lt_of_le (Nat.le_of_ble_eq_true rfl) hn) rfl ?_
          refine J_iload_n 1 2 a1 dX9_aTon_150 rfl rfl ?_
          refine J_iconst 0 dX9_aTon_151 (by decide) ?_
          refine J_iadd dX9_aTon_152 ?_
          refine J_iload 7 4 y9 dX9_aTon_153 rfl ?_
          refine J_iadd dX9_aTon_155 ?_
          refine J_dup2 dX9_aTon_156 rfl rfl ?_
          refine J_iald 114 512 dX9_aTon_157 rfl (Nat.lt_of_lt_of_le (Nat.le_of_ble_eq_true rfl) hn) (fun x24 => ?_)
          refine J_iload 8 0 y14 dX9_aTon_158 rfl ?_
          refine J_callSP 1 [.int y14] dX9_aTon_160 mv_X9_flag mv_X9_flags lk_9_174 (ct_X9_flag F hn P D T m23 y14) rfl ⟨by decide, by decide⟩ (by decide) (fun x25 => ?_)
          refine J_iadd dX9_aTon_163 ?_
          refine J_iast 114 512 dX9_aTon_164 rfl (Nat.lt_of_lt_of_le (Nat.le_of_ble_eq_true rfl) hn) (fun m27 => ?_)
          exact J_vretV dX9_aTon_165 rfl rfl
        · refine J_icmp_le 124 dX9_aTon_86 (by decide) ?_ ?_
          · refine J_iconst 0 dX9_aTon_124 (by decide) ?_
            exact J_lv [1, 2, 4, 0] rfl (hEy14 0)
          · refine J_aload_n 0 1 113 dX9_aTon_89 rfl rfl ?_
            refine J_iload_n 1 2 a1 dX9_aTon_90 rfl rfl ?_
            refine J_iload 6 4 y8 dX9_aTon_91 rfl ?_
            refine J_callVP 113 9 2 [.int a1, .int y8] dX9_aTon_93 mv_X9_heightOf mv_X9_heightOfv lk_9_214 (ct_X9_heightOf F hn P D T m a1 y8) rfl rfl (by decide) rfl (Nat.lt_of_lt_of_le (Nat.le_of_ble_eq_true rfl) hn) ⟨by decide, by decide⟩ (by decide) (fun x15 => ?_)
            refine J_aload_n 0 1 113 dX9_aTon_96 rfl rfl ?_
            refine J_getR 113 9 5 117 dX9_aTon_97 fl_9_20 rfl rfl (Nat.lt_of_lt_of_le (Nat.le_of_ble_eq_true rfl) hn) rfl ?_
            refine J_bipush 6 dX9_aTon_100 (by decide) ?_
            refine J_iload_n 2 3 a2 dX9_aTon_102 rfl rfl ?_
            refine J_imul dX9_aTon_103 ?_
            refine J_iconst 2 dX9_aTon_104 (by decide) ?_
            refine J_iadd dX9_aTon_105 ?_
            refine J_iald 117 60 dX9_aTon_106 rfl (Nat.lt_of_lt_of_le (Nat.le_of_ble_eq_true rfl) hn) (fun x17 => ?_)
            refine J_icmp_le 124 dX9_aTon_107 (by decide) ?_ ?_
            · refine J_iconst 0 dX9_aTon_124 (by decide) ?_
              exact J_lv [1, 2, 4, 0] rfl (hEy14 0)
            · refine J_aload_n 0 1 113 dX9_aTon_110 rfl rfl ?_
              refine J_iload_n 1 2 a1 dX9_aTon_111 rfl rfl ?_
              refine J_iload 7 0 y9 dX9_aTon_112 rfl ?_
              refine J_callVP 113 9 2 [.int a1, .int y9] dX9_aTon_114 mv_X9_room mv_X9_roomv lk_9_217 (ct_X9_room F hn P D T m a1 y9) rfl rfl (by decide) rfl (Nat.lt_of_lt_of_le (Nat.le_of_ble_eq_true rfl) hn) ⟨by decide, by decide⟩ (by decide) (fun x18 => ?_)
              refine J_if_le 124 dX9_aTon_117 (by decide) ?_ ?_
              · refine J_iconst 0 dX9_aTon_124 (by decide) ?_
                exact J_lv [1, 2, 4, 0] rfl (hEy14 0)
              · refine J_iconst 1 dX9_aTon_120 (by decide) ?_
                refine J_goto 125 dX9_aTon_121 (by decide) ?_
                exact J_lv [1, 2, 4, 0] rfl (hEy14 1)
      · refine J_if_eq 69 dX9_aTon_61 (by decide) ?_ ?_
        · refine J_iload_n 3 4 x1 dX9_aTon_69 rfl rfl ?_
          exact J_lv [1, 2, 3, 0] rfl (hEy9 x1)
        · refine J_iload 4 5 x2 dX9_aTon_64 rfl ?_
          refine J_goto 70 dX9_aTon_66 (by decide) ?_
          exact J_lv [1, 2, 3, 0] rfl (hEy9 x2)
    · refine J_if_eq 55 dX9_aTon_48 (by decide) ?_ ?_
      · refine J_iload 4 5 x2 dX9_aTon_55 rfl ?_
        exact J_lv [1, 2, 3, 4, 5, 0] rfl (hEy8 x2)
      · refine J_iload_n 3 4 x1 dX9_aTon_51 rfl rfl ?_
        refine J_goto 57 dX9_aTon_52 (by decide) ?_
        exact J_lv [1, 2, 3, 4, 5, 0] rfl (hEy8 x1)
  · refine J_icmp_le 43 dX9_aTon_36 (by decide) ?_ ?_
    · refine J_iconst 0 dX9_aTon_43 (by decide) ?_
      exact J_lv [2, 3, 4, 1, 0] rfl (hEy7 0)
    · refine J_iconst 1 dX9_aTon_39 (by decide) ?_
      refine J_goto 44 dX9_aTon_40 (by decide) ?_
      exact J_lv [2, 3, 4, 1, 0] rfl (hEy7 1)
def b_X9_read_47 (m : Mm) (a1 : Int32) (a2 : Int32) (a3 : Int32) (t5 : Int32 × Int32 × Int32) (t9 : Int32 × Int32) : Option ((Int32 × Int32) ⊕ (Int32)) :=
  if (4 : Int32) ≤ t9.2 then (some (Sum.inr t9.1)) else (if t9.1 = 0 then (letv ((a3.toInt64 + (((4 : Int32) * t5.2.2).toInt64)) + t9.2.toInt64) fun x11 => (ald m 132 4 a1).bind fun x12 => (if x12 = ((-4) : Int32) then (some 1) else ((ald m 132 4 a1).bind fun x14 => if x14 = a2 then (if (lg_cmp x11 (0 : Int64)) < 0 then (some 2) else ((ald m 133 4 a1).bind fun x15 => if (lg_cmp x11 x15.toInt64) < 0 then (some 0) else (some 2))) else (some 3)) : Option (Int32)).bind fun y13 => some (Sum.inl (y13, t9.2 + 1))) else (some (Sum.inr t9.1)))
def b_X9_read_32 (F : Nat) (m : Mm) (a1 : Int32) (a2 : Int32) (a3 : Int32) (a4 : Int32) (t5 : Int32 × Int32 × Int32) : Option ((Int32 × Int32 × Int32) ⊕ ((Int32) ⊕ (Unit) ⊕ (Int32 × Int32))) :=
  if a4 ≤ t5.2.2 then (some (Sum.inr (Sum.inr (Sum.inr ((t5.1, t5.2.1)))))) else (if t5.1 = 0 then ((iter F (b_X9_read_47 m a1 a2 a3 t5) ((t5.1, 0) : Int32 × Int32)).bind (fun e10 : Int32 => if e10 = 0 then (letv ((((40 : Int32) * a1) + a3) + ((4 : Int32) * t5.2.2)) fun x16 => (ald m 114 512 71).bind fun x17 => (ald m 134 160 x16).bind fun x18 => (ald m 134 160 (x16 + (1 : Int32))).bind fun x19 => (ald m 134 160 (x16 + (2 : Int32))).bind fun x20 => (ald m 134 160 (x16 + (3 : Int32))).bind fun x21 => (f_X9_isOrder m (x17.toInt64 + x18.toInt64) x19 x20 x21).bind fun x22 => if x22 = 0 then (some (Sum.inr (Sum.inl t5.2.2))) else ((ald m 114 512 76).bind fun x24 => if (x24 + t5.2.1) = (12 : Int32) then (some (Sum.inr (Sum.inr (Sum.inl (()))))) else (some (Sum.inl (e10, t5.2.1 + 1, t5.2.2 + 1))))) else (some (Sum.inl (e10, t5.2.1, t5.2.2 + 1))))) else (some (Sum.inr (Sum.inr (Sum.inr ((t5.1, t5.2.1)))))))
def b_X9_read_245 (a1 : Int32) (a3 : Int32) (e8 : Int32 × Int32) (t26 : Int32 × Mm) : Option ((Int32 × Mm) ⊕ (Mm)) :=
  if e8.2 ≤ t26.1 then (some (Sum.inr t26.2)) else (letv ((((40 : Int32) * a1) + a3) + ((4 : Int32) * t26.1)) fun x28 => (ald t26.2 114 512 71).bind fun x29 => (ald t26.2 134 160 x28).bind fun x30 => (ald t26.2 134 160 (x28 + (1 : Int32))).bind fun x31 => (ald t26.2 134 160 (x28 + (2 : Int32))).bind fun x32 => (ald t26.2 134 160 (x28 + (3 : Int32))).bind fun x33 => (f_X9_tells t26.2 0 (x29 + x30) x31 x32 x33).bind fun m35 => some (Sum.inl (t26.1 + 1, m35)))
def f_X9_read (F : Nat) (m : Mm) (a1 : Int32) (a2 : Int32) (a3 : Int32) (a4 : Int32) : Option (Int32 × Mm) :=
  (f_X9_isSheet a1 a2).bind fun x1 => if x1 = 0 then (some ((-1), m)) else ((f_X9_in a4.toInt64 0 10).bind fun x3 => if x3 = 0 then (some ((-1), m)) else ((iter F (b_X9_read_32 F m a1 a2 a3 a4) ((0, 0, 0) : Int32 × Int32 × Int32)).bind (Sum.elim (fun e6 : Int32 => some (((-20) : Int32) - e6, m)) (Sum.elim (fun e7 : Unit => some ((-3), m)) (fun e8 : Int32 × Int32 => letv (up2 m 113 41 e8.1) fun m25 => (iter F (b_X9_read_245 a1 a3 e8) ((0, m25) : Int32 × Mm)).bind (fun e27 : Mm => some (e8.2, e27)))))))
set_option maxHeartbeats 4000000 in
set_option maxRecDepth 100000 in
theorem ct_X9_read (F : Nat) {n : Nat} (hn : 135 ≤ n) (P D : Nat) (T : Option Nat) (m : Mm) (a1 : Int32) (a2 : Int32) (a3 : Int32) (a4 : Int32) : Ct yX9_read cX9_read 11 (some .int) 3 71 [.ref 113, .int a1, .int a2, .int a3, .int a4] n n m (RF P D T) (rI (RF P D T) (f_X9_read F m a1 a2 a3 a4)) := by
  refine Ct.ofI (own := RX9) (nm := "read") [(0, .ref 113), (1, .int a1), (2, .int a2), (3, .int a3), (4, .int a4)] (by decide) (Nat.le_of_ble_eq_true rfl) rfl rfl rfl ?_
  unfold f_X9_read
  refine J_iload_n 1 1 a1 dX9_read_0 rfl rfl ?_
  refine J_iload_n 2 2 a2 dX9_read_1 rfl rfl ?_
  refine J_callSP 2 [.int a1, .int a2] dX9_read_2 mv_X9_isSheet mv_X9_isSheets lk_9_356 (ct_X9_isSheet F hn P D T m a1 a2) rfl ⟨by decide, by decide⟩ (by decide) (fun x1 => ?_)
  refine J_if_eq 21 dX9_read_5 (by decide) ?_ ?_
  · refine J_iconst (-1) dX9_read_21 (by decide) ?_
    exact J_iretI dX9_read_22 rfl rfl
  · refine J_iload 4 4 a4 dX9_read_8 rfl ?_
    refine J_i2l dX9_read_10 ?_
    refine J_lconst 0 dX9_read_11 (by decide) ?_
    refine J_ldc2 10 dX9_read_12 kl_9_180 ?_
    refine J_callSP 3 [.long a4.toInt64, .long 0, .long 10] dX9_read_15 mv_X9_in mv_X9_ins lk_9_114 (ct_X9_in F hn P D T m a4.toInt64 0 10) rfl ⟨by decide, by decide⟩ (by decide) (fun x3 => ?_)
    refine J_if_ne 23 dX9_read_18 (by decide) ?_ ?_
    · refine J_iconst 0 dX9_read_23 (by decide) ?_
      refine J_istore 5 [(5, .int 0), (0, .ref 113), (1, .int a1), (2, .int a2), (3, .int a3), (4, .int a4)] dX9_read_24 (by decide) rfl ?_
      refine J_iconst 0 dX9_read_26 (by decide) ?_
      refine J_istore 6 [(6, .int 0), (5, .int 0), (0, .ref 113), (1, .int a1), (2, .int a2), (3, .int a3), (4, .int a4)] dX9_read_27 (by decide) rfl ?_
      refine J_iconst 0 dX9_read_29 (by decide) ?_
      refine J_istore 7 [(7, .int 0), (6, .int 0), (5, .int 0), (0, .ref 113), (1, .int a1), (2, .int a2), (3, .int a3), (4, .int a4)] dX9_read_30 (by decide) rfl ?_
      refine J_lv [3, 4, 5, 6, 7, 2, 1, 0] rfl ?_
      refine J_loop (pc := 32) (fun t5 : Int32 × Int32 × Int32 => [(0, .ref 113), (1, .int a1), (2, .int a2), (3, .int a3), (4, .int a4), (5, .int t5.1), (6, .int t5.2.1), (7, .int t5.2.2)]) (fun t5 => m) (Sum.elim (fun _ => 203) (Sum.elim (fun _ => 224) (fun _ => 236))) (Sum.elim (fun e6 : Int32 => [(7, .int e6)]) (Sum.elim (fun e7 : Unit => []) (fun e8 : Int32 × Int32 => [(0, .ref 113), (1, .int a1), (3, .int a3), (5, .int e8.1), (6, .int e8.2)]))) (fun _ => []) (Sum.elim (fun e6 : Int32 => m) (Sum.elim (fun e7 : Unit => m) (fun e8 : Int32 × Int32 => m))) ?_ (fun t5 k1 hBt5 hXt5 => ?_) F ((0, 0, 0))
      · refine sum_all ?_ ?_
        · intro e6
          refine J_bipush (-20) dX9_read_203 (by decide) ?_
          refine J_iload 7 0 e6 dX9_read_205 rfl ?_
          refine J_isub dX9_read_207 ?_
          exact J_iretI dX9_read_208 rfl rfl
        · refine sum_all ?_ ?_
          · intro e7
            refine J_bipush (-3) dX9_read_224 (by decide) ?_
            exact J_iretI dX9_read_226 rfl rfl
          · intro e8
            refine J_aload_n 0 0 113 dX9_read_236 rfl rfl ?_
            refine J_iload 5 3 e8.1 dX9_read_237 rfl ?_
            refine J_putI 113 9 41 dX9_read_239 fl_9_359 rfl rfl (Nat.lt_of_lt_of_le (Nat.le_of_ble_eq_true rfl) hn) rfl rfl rfl (fun m25 => ?_)
            refine J_iconst 0 dX9_read_242 (by decide) ?_
            refine J_istore 7 [(7, .int 0), (0, .ref 113), (1, .int a1), (3, .int a3), (5, .int e8.1), (6, .int e8.2)] dX9_read_243 (by decide) rfl ?_
            refine J_lv [1, 2, 3, 5, 0] rfl ?_
            refine J_loop (pc := 245) (fun t26 : Int32 × Mm => [(0, .ref 113), (1, .int a1), (3, .int a3), (6, .int e8.2), (7, .int t26.1)]) (fun t26 => t26.2) (fun _ => 318) (fun e27 => [(6, .int e8.2)]) (fun _ => []) (fun e27 => e27) ?_ (fun t26 k1 hBt26 hXt26 => ?_) F ((0, m25))
            · refine fun e27 => ?_
              refine J_iload 6 0 e8.2 dX9_read_318 rfl ?_
              exact J_iretI dX9_read_320 rfl rfl
            · unfold b_X9_read_245
              refine J_iload 7 4 t26.1 dX9_read_245 rfl ?_
              refine J_iload 6 3 e8.2 dX9_read_247 rfl ?_
              refine J_icmp_ge 318 dX9_read_249 (by decide) ?_ ?_
              · exact J_lv [3] rfl (hXt26 t26.2)
              · refine J_bipush 40 dX9_read_252 (by decide) ?_
                refine J_iload_n 1 1 a1 dX9_read_254 rfl rfl ?_
                refine J_imul dX9_read_255 ?_
                refine J_iload_n 3 2 a3 dX9_read_256 rfl rfl ?_
                refine J_iadd dX9_read_257 ?_
                refine J_iconst 4 dX9_read_258 (by decide) ?_
                refine J_iload 7 4 t26.1 dX9_read_259 rfl ?_
                refine J_imul dX9_read_261 ?_
                refine J_iadd dX9_read_262 ?_
                refine J_let (fun x28 => ?_)
                refine J_istore 8 [(8, .int x28), (0, .ref 113), (1, .int a1), (3, .int a3), (6, .int e8.2), (7, .int t26.1)] dX9_read_263 (by decide) rfl ?_
                refine J_aload_n 0 1 113 dX9_read_265 rfl rfl ?_
                refine J_iconst 0 dX9_read_266 (by decide) ?_
                refine J_aload_n 0 1 113 dX9_read_267 rfl rfl ?_
                refine J_getR 113 9 0 114 dX9_read_268 fl_9_7 rfl rfl (Nat.lt_of_lt_of_le (Nat.le_of_ble_eq_true rfl) hn) rfl ?_
                refine J_bipush 71 dX9_read_271 (by decide) ?_
                refine J_iald 114 512 dX9_read_273 rfl (Nat.lt_of_lt_of_le (Nat.le_of_ble_eq_true rfl) hn) (fun x29 => ?_)
                refine J_aload_n 0 1 113 dX9_read_274 rfl rfl ?_
                refine J_getR 113 9 40 134 dX9_read_275 fl_9_71 rfl rfl (Nat.lt_of_lt_of_le (Nat.le_of_ble_eq_true rfl) hn) rfl ?_
                refine J_iload 8 0 x28 dX9_read_278 rfl ?_
                refine J_iald 134 160 dX9_read_280 rfl (Nat.lt_of_lt_of_le (Nat.le_of_ble_eq_true rfl) hn) (fun x30 => ?_)
                refine J_iadd dX9_read_281 ?_
                refine J_aload_n 0 1 113 dX9_read_282 rfl rfl ?_
                refine J_getR 113 9 40 134 dX9_read_283 fl_9_71 rfl rfl (Nat.lt_of_lt_of_le (Nat.le_of_ble_eq_true rfl) hn) rfl ?_
                refine J_iload 8 0 x28 dX9_read_286 rfl ?_
                refine J_iconst 1 dX9_read_288 (by decide) ?_
                refine J_iadd dX9_read_289 ?_
                refine J_iald 134 160 dX9_read_290 rfl (Nat.lt_of_lt_of_le (Nat.le_of_ble_eq_true rfl) hn) (fun x31 => ?_)
                refine J_aload_n 0 1 113 dX9_read_291 rfl rfl ?_
                refine J_getR 113 9 40 134 dX9_read_292 fl_9_71 rfl rfl (Nat.lt_of_lt_of_le (Nat.le_of_ble_eq_true rfl) hn) rfl ?_
                refine J_iload 8 0 x28 dX9_read_295 rfl ?_
                refine J_iconst 2 dX9_read_297 (by decide) ?_
                refine J_iadd dX9_read_298 ?_
                refine J_iald 134 160 dX9_read_299 rfl (Nat.lt_of_lt_of_le (Nat.le_of_ble_eq_true rfl) hn) (fun x32 => ?_)
                refine J_aload_n 0 1 113 dX9_read_300 rfl rfl ?_
                refine J_getR 113 9 40 134 dX9_read_301 fl_9_71 rfl rfl (Nat.lt_of_lt_of_le (Nat.le_of_ble_eq_true rfl) hn) rfl ?_
                refine J_iload 8 0 x28 dX9_read_304 rfl ?_
                refine J_iconst 3 dX9_read_306 (by decide) ?_
                refine J_iadd dX9_read_307 ?_
                refine J_iald 134 160 dX9_read_308 rfl (Nat.lt_of_lt_of_le (Nat.le_of_ble_eq_true rfl) hn) (fun x33 => ?_)
                refine J_callVV 113 9 5 [.int 0, .int (x29 + x30), .int x31, .int x32, .int x33] dX9_read_309 mv_X9_tells mv_X9_tellsv lk_9_270 (ct_X9_tells F hn P D T t26.2 0 (x29 + x30) x31 x32 x33) rfl rfl (by decide) rfl (Nat.lt_of_lt_of_le (Nat.le_of_ble_eq_true rfl) hn) ⟨by decide, by decide⟩ (by decide) (fun m35 => ?_)
                refine J_iinc 7 5 [(7, .int (t26.1 + 1)), (8, .int x28), (0, .ref 113), (1, .int a1), (3, .int a3), (6, .int e8.2)] t26.1 (t26.1 + 1) dX9_read_312 rfl rfl (by decide) rfl ?_
                refine J_goto 245 dX9_read_315 (by decide) ?_
                exact J_lv [2, 3, 4, 5, 0] rfl (hBt26 (t26.1 + 1, m35))
      · unfold b_X9_read_32
        refine J_iload 7 7 t5.2.2 dX9_read_32 rfl ?_
        refine J_iload 4 4 a4 dX9_read_34 rfl ?_
        refine J_icmp_ge 236 dX9_read_36 (by decide) ?_ ?_
        · exact J_lv [0, 1, 3, 5, 6] rfl (hXt5 (Sum.inr (Sum.inr ((t5.1, t5.2.1)))))
        · refine J_iload 5 5 t5.1 dX9_read_39 rfl ?_
          refine J_if_ne 236 dX9_read_41 (by decide) ?_ ?_
          · exact J_lv [0, 1, 3, 5, 6] rfl (hXt5 (Sum.inr (Sum.inr ((t5.1, t5.2.1)))))
          · refine J_iconst 0 dX9_read_44 (by decide) ?_
            refine J_istore 8 [(8, .int 0), (0, .ref 113), (1, .int a1), (2, .int a2), (3, .int a3), (4, .int a4), (5, .int t5.1), (6, .int t5.2.1), (7, .int t5.2.2)] dX9_read_45 (by decide) rfl ?_
            refine J_lv [1, 2, 3, 4, 5, 6, 7, 8, 0] rfl ?_
            refine J_loop (pc := 47) (fun t9 : Int32 × Int32 => [(0, .ref 113), (1, .int a1), (2, .int a2), (3, .int a3), (4, .int a4), (5, .int t9.1), (6, .int t5.2.1), (7, .int t5.2.2), (8, .int t9.2)]) (fun t9 => m) (fun _ => 134) (fun e10 => [(0, .ref 113), (1, .int a1), (2, .int a2), (3, .int a3), (4, .int a4), (5, .int e10), (6, .int t5.2.1), (7, .int t5.2.2)]) (fun _ => []) (fun e10 => m) ?_ (fun t9 k1 hBt9 hXt9 => ?_) F ((t5.1, 0))
            · refine fun e10 => ?_
              refine J_iload 5 5 e10 dX9_read_134 rfl ?_
              refine J_if_ne 230 dX9_read_136 (by decide) ?_ ?_
              · refine J_iinc 7 7 [(7, .int (t5.2.2 + 1)), (0, .ref 113), (1, .int a1), (2, .int a2), (3, .int a3), (4, .int a4), (5, .int e10), (6, .int t5.2.1)] t5.2.2 (t5.2.2 + 1) dX9_read_230 rfl rfl (by decide) rfl ?_
                refine J_goto 32 dX9_read_233 (by decide) ?_
                exact J_lv [1, 2, 3, 4, 5, 6, 7, 0] rfl (hBt5 (e10, t5.2.1, t5.2.2 + 1))
              · refine J_bipush 40 dX9_read_139 (by decide) ?_
                refine J_iload_n 1 1 a1 dX9_read_141 rfl rfl ?_
                refine J_imul dX9_read_142 ?_
                refine J_iload_n 3 3 a3 dX9_read_143 rfl rfl ?_
                refine J_iadd dX9_read_144 ?_
                refine J_iconst 4 dX9_read_145 (by decide) ?_
                refine J_iload 7 7 t5.2.2 dX9_read_146 rfl ?_
                refine J_imul dX9_read_148 ?_
                refine J_iadd dX9_read_149 ?_
                refine J_let (fun x16 => ?_)
                refine J_istore 8 [(8, .int x16), (0, .ref 113), (1, .int a1), (2, .int a2), (3, .int a3), (4, .int a4), (5, .int e10), (6, .int t5.2.1), (7, .int t5.2.2)] dX9_read_150 (by decide) rfl ?_
                refine J_aload_n 0 1 113 dX9_read_152 rfl rfl ?_
                refine J_aload_n 0 1 113 dX9_read_153 rfl rfl ?_
                refine J_getR 113 9 0 114 dX9_read_154 fl_9_7 rfl rfl (Nat.lt_of_lt_of_le (Nat.le_of_ble_eq_true rfl) hn) rfl ?_
                refine J_bipush 71 dX9_read_157 (by decide) ?_
                refine J_iald 114 512 dX9_read_159 rfl (Nat.lt_of_lt_of_le (Nat.le_of_ble_eq_true rfl) hn) (fun x17 => ?_)
                refine J_i2l dX9_read_160 ?_
                refine J_aload_n 0 1 113 dX9_read_161 rfl rfl ?_
                refine J_getR 113 9 40 134 dX9_read_162 fl_9_71 rfl rfl (Nat.lt_of_lt_of_le (Nat.le_of_ble_eq_true rfl) hn) rfl ?_
                refine J_iload 8 0 x16 dX9_read_165 rfl ?_
                refine J_iald 134 160 dX9_read_167 rfl (Nat.lt_of_lt_of_le (Nat.le_of_ble_eq_true rfl) hn) (fun x18 => ?_)
                refine J_i2l dX9_read_168 ?_
                refine J_ladd dX9_read_169 ?_
                refine J_aload_n 0 1 113 dX9_read_170 rfl rfl ?_
                refine J_getR 113 9 40 134 dX9_read_171 fl_9_71 rfl rfl (Nat.lt_of_lt_of_le (Nat.le_of_ble_eq_true rfl) hn) rfl ?_
                refine J_iload 8 0 x16 dX9_read_174 rfl ?_
                refine J_iconst 1 dX9_read_176 (by decide) ?_
                refine J_iadd dX9_read_177 ?_
                refine J_iald 134 160 dX9_read_178 rfl (Nat.lt_of_lt_of_le (Nat.le_of_ble_eq_true rfl) hn) (fun x19 => ?_)
                refine J_aload_n 0 1 113 dX9_read_179 rfl rfl ?_
                refine J_getR 113 9 40 134 dX9_read_180 fl_9_71 rfl rfl (Nat.lt_of_lt_of_le (Nat.le_of_ble_eq_true rfl) hn) rfl ?_
                refine J_iload 8 0 x16 dX9_read_183 rfl ?_
                refine J_iconst 2 dX9_read_185 (by decide) ?_
                refine J_iadd dX9_read_186 ?_
                refine J_iald 134 160 dX9_read_187 rfl (Nat.lt_of_lt_of_le (Nat.le_of_ble_eq_true rfl) hn) (fun x20 => ?_)
                refine J_aload_n 0 1 113 dX9_read_188 rfl rfl ?_
                refine J_getR 113 9 40 134 dX9_read_189 fl_9_71 rfl rfl (Nat.lt_of_lt_of_le (Nat.le_of_ble_eq_true rfl) hn) rfl ?_
                refine J_iload 8 0 x16 dX9_read_192 rfl ?_
                refine J_iconst 3 dX9_read_194 (by decide) ?_
                refine J_iadd dX9_read_195 ?_
                refine J_iald 134 160 dX9_read_196 rfl (Nat.lt_of_lt_of_le (Nat.le_of_ble_eq_true rfl) hn) (fun x21 => ?_)
                refine J_callVP 113 9 4 [.long (x17.toInt64 + x18.toInt64), .int x19, .int x20, .int x21] dX9_read_197 mv_X9_isOrder mv_X9_isOrderv lk_9_266 (ct_X9_isOrder F hn P D T m (x17.toInt64 + x18.toInt64) x19 x20 x21) rfl rfl (by decide) rfl (Nat.lt_of_lt_of_le (Nat.le_of_ble_eq_true rfl) hn) ⟨by decide, by decide⟩ (by decide) (fun x22 => ?_)
                refine J_if_ne 209 dX9_read_200 (by decide) ?_ ?_
                · refine J_aload_n 0 1 113 dX9_read_209 rfl rfl ?_
                  refine J_getR 113 9 0 114 dX9_read_210 fl_9_7 rfl rfl (Nat.lt_of_lt_of_le (Nat.le_of_ble_eq_true rfl) hn) rfl ?_
                  refine J_bipush 76 dX9_read_213 (by decide) ?_
                  refine J_iald 114 512 dX9_read_215 rfl (Nat.lt_of_lt_of_le (Nat.le_of_ble_eq_true rfl) hn) (fun x24 => ?_)
                  refine J_iload 6 7 t5.2.1 dX9_read_216 rfl ?_
                  refine J_iadd dX9_read_218 ?_
                  refine J_bipush 12 dX9_read_219 (by decide) ?_
                  refine J_icmp_ne 227 dX9_read_221 (by decide) ?_ ?_
                  · refine J_iinc 6 7 [(6, .int (t5.2.1 + 1)), (8, .int x16), (0, .ref 113), (1, .int a1), (2, .int a2), (3, .int a3), (4, .int a4), (5, .int e10), (7, .int t5.2.2)] t5.2.1 (t5.2.1 + 1) dX9_read_227 rfl rfl (by decide) rfl ?_
                    refine J_iinc 7 8 [(7, .int (t5.2.2 + 1)), (6, .int (t5.2.1 + 1)), (8, .int x16), (0, .ref 113), (1, .int a1), (2, .int a2), (3, .int a3), (4, .int a4), (5, .int e10)] t5.2.2 (t5.2.2 + 1) dX9_read_230 rfl rfl (by decide) rfl ?_
                    refine J_goto 32 dX9_read_233 (by decide) ?_
                    exact J_lv [3, 4, 5, 6, 7, 8, 1, 0] rfl (hBt5 (e10, t5.2.1 + 1, t5.2.2 + 1))
                  · exact J_lv [] rfl (hXt5 (Sum.inr (Sum.inl (()))))
                · exact J_lv [8] rfl (hXt5 (Sum.inl t5.2.2))
            · unfold b_X9_read_47
              refine J_iload 8 8 t9.2 dX9_read_47 rfl ?_
              refine J_iconst 4 dX9_read_49 (by decide) ?_
              refine J_icmp_ge 134 dX9_read_50 (by decide) ?_ ?_
              · exact J_lv [0, 1, 2, 3, 4, 5, 6, 7] rfl (hXt9 t9.1)
              · refine J_iload 5 5 t9.1 dX9_read_53 rfl ?_
                refine J_if_ne 134 dX9_read_55 (by decide) ?_ ?_
                · exact J_lv [0, 1, 2, 3, 4, 5, 6, 7] rfl (hXt9 t9.1)
                · refine J_iload_n 3 3 a3 dX9_read_58 rfl rfl ?_
                  refine J_i2l dX9_read_59 ?_
                  refine J_iconst 4 dX9_read_60 (by decide) ?_
                  refine J_iload 7 7 t5.2.2 dX9_read_61 rfl ?_
                  refine J_imul dX9_read_63 ?_
                  refine J_i2l dX9_read_64 ?_
                  refine J_ladd dX9_read_65 ?_
                  refine J_iload 8 8 t9.2 dX9_read_66 rfl ?_
                  refine J_i2l dX9_read_68 ?_
                  refine J_ladd dX9_read_69 ?_
                  refine J_letL (fun x11 => ?_)
                  refine J_lstore 9 [(9, .long x11), (0, .ref 113), (1, .int a1), (2, .int a2), (3, .int a3), (4, .int a4), (5, .int t9.1), (6, .int t5.2.1), (7, .int t5.2.2), (8, .int t9.2)] dX9_read_70 (by decide) rfl ?_
                  refine J_aload_n 0 1 113 dX9_read_72 rfl rfl ?_
                  refine J_getR 113 9 38 132 dX9_read_73 fl_9_65 rfl rfl (Nat.lt_of_lt_of_le (Nat.le_of_ble_eq_true rfl) hn) rfl ?_
                  refine J_iload_n 1 2 a1 dX9_read_76 rfl rfl ?_
                  refine J_iald 132 4 dX9_read_77 rfl (Nat.lt_of_lt_of_le (Nat.le_of_ble_eq_true rfl) hn) (fun x12 => ?_)
                  refine J_bipush (-4) dX9_read_78 (by decide) ?_
                  refine J_seqJ 126 (fun y13 : Int32 => [(0, .ref 113), (1, .int a1), (2, .int a2), (3, .int a3), (4, .int a4), (6, .int t5.2.1), (7, .int t5.2.2), (8, .int t9.2)]) (fun y13 => [.int y13]) (fun y13 => m) (fun y13 => ?_) (fun k1 hEy13 => ?_)
                  · refine J_istore 5 [(5, .int y13), (0, .ref 113), (1, .int a1), (2, .int a2), (3, .int a3), (4, .int a4), (6, .int t5.2.1), (7, .int t5.2.2), (8, .int t9.2)] dX9_read_126 (by decide) rfl ?_
                    refine J_iinc 8 8 [(8, .int (t9.2 + 1)), (5, .int y13), (0, .ref 113), (1, .int a1), (2, .int a2), (3, .int a3), (4, .int a4), (6, .int t5.2.1), (7, .int t5.2.2)] t9.2 (t9.2 + 1) dX9_read_128 rfl rfl (by decide) rfl ?_
                    refine J_goto 47 dX9_read_131 (by decide) ?_
                    exact J_lv [2, 3, 4, 5, 6, 1, 7, 8, 0] rfl (hBt9 (y13, t9.2 + 1))
                  · refine J_icmp_ne 87 dX9_read_80 (by decide) ?_ ?_
                    · refine J_aload_n 0 1 113 dX9_read_87 rfl rfl ?_
                      refine J_getR 113 9 38 132 dX9_read_88 fl_9_65 rfl rfl (Nat.lt_of_lt_of_le (Nat.le_of_ble_eq_true rfl) hn) rfl ?_
                      refine J_iload_n 1 2 a1 dX9_read_91 rfl rfl ?_
                      refine J_iald 132 4 dX9_read_92 rfl (Nat.lt_of_lt_of_le (Nat.le_of_ble_eq_true rfl) hn) (fun x14 => ?_)
                      refine J_iload_n 2 3 a2 dX9_read_93 rfl rfl ?_
                      refine J_icmp_eq 101 dX9_read_94 (by decide) ?_ ?_
                      · refine J_lload 9 0 x11 dX9_read_101 rfl ?_
                        refine J_lconst 0 dX9_read_103 (by decide) ?_
                        refine J_lcmp dX9_read_104 ?_
                        refine J_if_lt 121 dX9_read_105 (by decide) ?_ ?_
                        · refine J_iconst 2 dX9_read_121 (by decide) ?_
                          refine J_goto 126 dX9_read_122 (by decide) ?_
                          exact J_lv [1, 2, 3, 4, 5, 7, 8, 9] rfl (hEy13 2)
                        · refine J_lload 9 0 x11 dX9_read_108 rfl ?_
                          refine J_aload_n 0 1 113 dX9_read_110 rfl rfl ?_
                          refine J_getR 113 9 39 133 dX9_read_111 fl_9_68 rfl rfl (Nat.lt_of_lt_of_le (Nat.le_of_ble_eq_true rfl) hn) rfl ?_
                          refine J_iload_n 1 2 a1 dX9_read_114 rfl rfl ?_
                          refine J_iald 133 4 dX9_read_115 rfl (Nat.lt_of_lt_of_le (Nat.le_of_ble_eq_true rfl) hn) (fun x15 => ?_)
                          refine J_i2l dX9_read_116 ?_
                          refine J_lcmp dX9_read_117 ?_
                          refine J_if_lt 125 dX9_read_118 (by decide) ?_ ?_
                          · refine J_iconst 0 dX9_read_125 (by decide) ?_
                            exact J_lv [1, 2, 3, 4, 5, 7, 8, 9] rfl (hEy13 0)
                          · refine J_iconst 2 dX9_read_121 (by decide) ?_
                            refine J_goto 126 dX9_read_122 (by decide) ?_
                            exact J_lv [1, 2, 3, 4, 5, 7, 8, 9] rfl (hEy13 2)
                      · refine J_iconst 3 dX9_read_97 (by decide) ?_
                        refine J_goto 126 dX9_read_98 (by decide) ?_
                        exact J_lv [1, 2, 3, 4, 5, 7, 8, 9] rfl (hEy13 3)
                    · refine J_iconst 1 dX9_read_83 (by decide) ?_
                      refine J_goto 126 dX9_read_84 (by decide) ?_
                      exact J_lv [1, 2, 3, 4, 5, 7, 8, 9] rfl (hEy13 1)
    · refine J_iconst (-1) dX9_read_21 (by decide) ?_
      exact J_iretI dX9_read_22 rfl rfl

theorem fl_9_17 : FL RX9 17 9 3 := ⟨by decide, by decide, tb 1025 (by decide +kernel) rfl⟩
theorem lk_9_199 : Cond.methodLink RX9 199 yX9_size ∈ TBg := tb 1015 (by decide +kernel) rfl
theorem lk_9_202 : Cond.methodLink RX9 202 yX9_allOf ∈ TBg := tb 1007 (by decide +kernel) rfl
theorem lk_9_205 : Cond.methodLink RX9 205 yX9_listOf ∈ TBg := tb 1011 (by decide +kernel) rfl
theorem lk_9_208 : Cond.methodLink RX9 208 yX9_trimOf ∈ TBg := tb 1018 (by decide +kernel) rfl
theorem lk_9_211 : Cond.methodLink RX9 211 yX9_whySinks ∈ TBg := tb 1003 (by decide +kernel) rfl
theorem lk_9_214 : Cond.methodLink RX9 214 yX9_heightOf ∈ TBg := tb 1240 (by decide +kernel) rfl
theorem lk_9_217 : Cond.methodLink RX9 217 yX9_room ∈ TBg := tb 1261 (by decide +kernel) rfl
theorem mv_X9_allOf : MV yX9_allOf cX9_allOf 4 (some .int) 1 := ⟨tb 1010 (by decide +kernel) rfl, tb 13 (by decide +kernel) rfl, by decide +kernel⟩
theorem mv_X9_allOfv : Cond.instanceMethod yX9_allOf ∈ TBg ∧ Cond.selects yX9_allOf.cls yX9_allOf yX9_allOf ∈ TBg := ⟨tb 1009 (by decide +kernel) rfl, tbP (k := 42) 47 (by decide +kernel) rfl⟩
theorem mv_X9_heightOf : MV yX9_heightOf cX9_heightOf 3 (some .int) 2 := ⟨tb 1243 (by decide +kernel) rfl, tb 13 (by decide +kernel) rfl, by decide +kernel⟩
theorem mv_X9_heightOfv : Cond.instanceMethod yX9_heightOf ∈ TBg ∧ Cond.selects yX9_heightOf.cls yX9_heightOf yX9_heightOf ∈ TBg := ⟨tb 1242 (by decide +kernel) rfl, tbP (k := 42) 64 (by decide +kernel) rfl⟩
theorem mv_X9_listOf : MV yX9_listOf cX9_listOf 4 (some .int) 1 := ⟨tb 1014 (by decide +kernel) rfl, tb 13 (by decide +kernel) rfl, by decide +kernel⟩
theorem mv_X9_listOfv : Cond.instanceMethod yX9_listOf ∈ TBg ∧ Cond.selects yX9_listOf.cls yX9_listOf yX9_listOf ∈ TBg := ⟨tb 1013 (by decide +kernel) rfl, tbP (k := 42) 48 (by decide +kernel) rfl⟩
theorem mv_X9_room : MV yX9_room cX9_room 3 (some .int) 2 := ⟨tb 1264 (by decide +kernel) rfl, tb 13 (by decide +kernel) rfl, by decide +kernel⟩
theorem mv_X9_roomv : Cond.instanceMethod yX9_room ∈ TBg ∧ Cond.selects yX9_room.cls yX9_room yX9_room ∈ TBg := ⟨tb 1263 (by decide +kernel) rfl, tbP (k := 42) 67 (by decide +kernel) rfl⟩
theorem mv_X9_size : MV yX9_size cX9_size 1 (some .int) 1 := ⟨tb 1017 (by decide +kernel) rfl, tb 13 (by decide +kernel) rfl, by decide +kernel⟩
theorem mv_X9_sizes : Cond.static yX9_size ∈ TBg := tb 1016 (by decide +kernel) rfl
theorem mv_X9_trimOf : MV yX9_trimOf cX9_trimOf 4 (some .int) 1 := ⟨tb 1021 (by decide +kernel) rfl, tb 13 (by decide +kernel) rfl, by decide +kernel⟩
theorem mv_X9_trimOfv : Cond.instanceMethod yX9_trimOf ∈ TBg ∧ Cond.selects yX9_trimOf.cls yX9_trimOf yX9_trimOf ∈ TBg := ⟨tb 1020 (by decide +kernel) rfl, tbP (k := 42) 49 (by decide +kernel) rfl⟩
theorem mv_X9_whySinks : MV yX9_whySinks cX9_whySinks 2 (some .int) 1 := ⟨tb 1006 (by decide +kernel) rfl, tb 13 (by decide +kernel) rfl, by decide +kernel⟩
theorem mv_X9_whySinksv : Cond.instanceMethod yX9_whySinks ∈ TBg ∧ Cond.selects yX9_whySinks.cls yX9_whySinks yX9_whySinks ∈ TBg := ⟨tb 1005 (by decide +kernel) rfl, tbP (k := 42) 46 (by decide +kernel) rfl⟩
theorem dX9_listOf_0 : decode cX9_listOf 0 = .ok (.iconst 0, 1) := by decide +kernel
theorem dX9_listOf_1 : decode cX9_listOf 1 = .ok (.istore_n 2, 1) := by decide +kernel
theorem dX9_listOf_2 : decode cX9_listOf 2 = .ok (.iconst 0, 1) := by decide +kernel
theorem dX9_listOf_3 : decode cX9_listOf 3 = .ok (.istore_n 3, 1) := by decide +kernel
theorem dX9_listOf_4 : decode cX9_listOf 4 = .ok (.iload_n 3, 1) := by decide +kernel
theorem dX9_listOf_5 : decode cX9_listOf 5 = .ok (.aload_n 0, 1) := by decide +kernel
theorem dX9_listOf_6 : decode cX9_listOf 6 = .ok (.getfield 93, 3) := by decide +kernel
theorem dX9_listOf_9 : decode cX9_listOf 9 = .ok (.if_icmp .ge 35, 3) := by decide +kernel
theorem dX9_listOf_12 : decode cX9_listOf 12 = .ok (.iload_n 2, 1) := by decide +kernel
theorem dX9_listOf_13 : decode cX9_listOf 13 = .ok (.aload_n 0, 1) := by decide +kernel
theorem dX9_listOf_14 : decode cX9_listOf 14 = .ok (.getfield 17, 3) := by decide +kernel
theorem dX9_listOf_17 : decode cX9_listOf 17 = .ok (.iconst 4, 1) := by decide +kernel
theorem dX9_listOf_18 : decode cX9_listOf 18 = .ok (.iload_n 3, 1) := by decide +kernel
theorem dX9_listOf_19 : decode cX9_listOf 19 = .ok (.imul, 1) := by decide +kernel
theorem dX9_listOf_20 : decode cX9_listOf 20 = .ok (.iconst 1, 1) := by decide +kernel
theorem dX9_listOf_21 : decode cX9_listOf 21 = .ok (.iadd, 1) := by decide +kernel
theorem dX9_listOf_22 : decode cX9_listOf 22 = .ok (.iaload, 1) := by decide +kernel
theorem dX9_listOf_23 : decode cX9_listOf 23 = .ok (.iconst 1, 1) := by decide +kernel
theorem dX9_listOf_24 : decode cX9_listOf 24 = .ok (.isub, 1) := by decide +kernel
theorem dX9_listOf_25 : decode cX9_listOf 25 = .ok (.aload_n 0, 1) := by decide +kernel
theorem dX9_listOf_26 : decode cX9_listOf 26 = .ok (.getfield 7, 3) := by decide +kernel
theorem dX9_listOf_29 : decode cX9_listOf 29 = .ok (.iload_n 1, 1) := by decide +kernel
theorem dX9_listOf_30 : decode cX9_listOf 30 = .ok (.iconst 0, 1) := by decide +kernel
theorem dX9_listOf_31 : decode cX9_listOf 31 = .ok (.iadd, 1) := by decide +kernel
theorem dX9_listOf_32 : decode cX9_listOf 32 = .ok (.iload_n 3, 1) := by decide +kernel
theorem dX9_listOf_33 : decode cX9_listOf 33 = .ok (.iadd, 1) := by decide +kernel
theorem dX9_listOf_34 : decode cX9_listOf 34 = .ok (.iaload, 1) := by decide +kernel
theorem dX9_listOf_35 : decode cX9_listOf 35 = .ok (.imul, 1) := by decide +kernel
theorem dX9_listOf_36 : decode cX9_listOf 36 = .ok (.iadd, 1) := by decide +kernel
theorem dX9_listOf_37 : decode cX9_listOf 37 = .ok (.istore_n 2, 1) := by decide +kernel
theorem dX9_listOf_38 : decode cX9_listOf 38 = .ok (.iinc 3 1, 3) := by decide +kernel
theorem dX9_listOf_41 : decode cX9_listOf 41 = .ok (.goto (-37), 3) := by decide +kernel
theorem dX9_listOf_44 : decode cX9_listOf 44 = .ok (.iload_n 2, 1) := by decide +kernel
theorem dX9_listOf_45 : decode cX9_listOf 45 = .ok (.invokestatic 199, 3) := by decide +kernel
theorem dX9_listOf_48 : decode cX9_listOf 48 = .ok (.iconst 2, 1) := by decide +kernel
theorem dX9_listOf_49 : decode cX9_listOf 49 = .ok (.idiv, 1) := by decide +kernel
theorem dX9_listOf_50 : decode cX9_listOf 50 = .ok (.ireturn, 1) := by decide +kernel
theorem dX9_trimOf_0 : decode cX9_trimOf 0 = .ok (.iconst 0, 1) := by decide +kernel
theorem dX9_trimOf_1 : decode cX9_trimOf 1 = .ok (.istore_n 2, 1) := by decide +kernel
theorem dX9_trimOf_2 : decode cX9_trimOf 2 = .ok (.iconst 0, 1) := by decide +kernel
theorem dX9_trimOf_3 : decode cX9_trimOf 3 = .ok (.istore_n 3, 1) := by decide +kernel
theorem dX9_trimOf_4 : decode cX9_trimOf 4 = .ok (.iload_n 3, 1) := by decide +kernel
theorem dX9_trimOf_5 : decode cX9_trimOf 5 = .ok (.aload_n 0, 1) := by decide +kernel
theorem dX9_trimOf_6 : decode cX9_trimOf 6 = .ok (.getfield 93, 3) := by decide +kernel
theorem dX9_trimOf_9 : decode cX9_trimOf 9 = .ok (.if_icmp .ge 36, 3) := by decide +kernel
theorem dX9_trimOf_12 : decode cX9_trimOf 12 = .ok (.iload_n 2, 1) := by decide +kernel
theorem dX9_trimOf_13 : decode cX9_trimOf 13 = .ok (.aload_n 0, 1) := by decide +kernel
theorem dX9_trimOf_14 : decode cX9_trimOf 14 = .ok (.getfield 17, 3) := by decide +kernel
theorem dX9_trimOf_17 : decode cX9_trimOf 17 = .ok (.iconst 4, 1) := by decide +kernel
theorem dX9_trimOf_18 : decode cX9_trimOf 18 = .ok (.iload_n 3, 1) := by decide +kernel
theorem dX9_trimOf_19 : decode cX9_trimOf 19 = .ok (.imul, 1) := by decide +kernel
theorem dX9_trimOf_20 : decode cX9_trimOf 20 = .ok (.iconst 2, 1) := by decide +kernel
theorem dX9_trimOf_21 : decode cX9_trimOf 21 = .ok (.iadd, 1) := by decide +kernel
theorem dX9_trimOf_22 : decode cX9_trimOf 22 = .ok (.iaload, 1) := by decide +kernel
theorem dX9_trimOf_23 : decode cX9_trimOf 23 = .ok (.bipush 9, 2) := by decide +kernel
theorem dX9_trimOf_25 : decode cX9_trimOf 25 = .ok (.isub, 1) := by decide +kernel
theorem dX9_trimOf_26 : decode cX9_trimOf 26 = .ok (.aload_n 0, 1) := by decide +kernel
theorem dX9_trimOf_27 : decode cX9_trimOf 27 = .ok (.getfield 7, 3) := by decide +kernel
theorem dX9_trimOf_30 : decode cX9_trimOf 30 = .ok (.iload_n 1, 1) := by decide +kernel
theorem dX9_trimOf_31 : decode cX9_trimOf 31 = .ok (.iconst 0, 1) := by decide +kernel
theorem dX9_trimOf_32 : decode cX9_trimOf 32 = .ok (.iadd, 1) := by decide +kernel
theorem dX9_trimOf_33 : decode cX9_trimOf 33 = .ok (.iload_n 3, 1) := by decide +kernel
theorem dX9_trimOf_34 : decode cX9_trimOf 34 = .ok (.iadd, 1) := by decide +kernel
theorem dX9_trimOf_35 : decode cX9_trimOf 35 = .ok (.iaload, 1) := by decide +kernel
theorem dX9_trimOf_36 : decode cX9_trimOf 36 = .ok (.imul, 1) := by decide +kernel
theorem dX9_trimOf_37 : decode cX9_trimOf 37 = .ok (.iadd, 1) := by decide +kernel
theorem dX9_trimOf_38 : decode cX9_trimOf 38 = .ok (.istore_n 2, 1) := by decide +kernel
theorem dX9_trimOf_39 : decode cX9_trimOf 39 = .ok (.iinc 3 1, 3) := by decide +kernel
theorem dX9_trimOf_42 : decode cX9_trimOf 42 = .ok (.goto (-38), 3) := by decide +kernel
theorem dX9_trimOf_45 : decode cX9_trimOf 45 = .ok (.iload_n 2, 1) := by decide +kernel
theorem dX9_trimOf_46 : decode cX9_trimOf 46 = .ok (.invokestatic 199, 3) := by decide +kernel
theorem dX9_trimOf_49 : decode cX9_trimOf 49 = .ok (.bipush 10, 2) := by decide +kernel
theorem dX9_trimOf_51 : decode cX9_trimOf 51 = .ok (.idiv, 1) := by decide +kernel
theorem dX9_trimOf_52 : decode cX9_trimOf 52 = .ok (.ireturn, 1) := by decide +kernel
theorem dX9_whySinks_0 : decode cX9_whySinks 0 = .ok (.aload_n 0, 1) := by decide +kernel
theorem dX9_whySinks_1 : decode cX9_whySinks 1 = .ok (.iload_n 1, 1) := by decide +kernel
theorem dX9_whySinks_2 : decode cX9_whySinks 2 = .ok (.invokevirtual 202, 3) := by decide +kernel
theorem dX9_whySinks_5 : decode cX9_whySinks 5 = .ok (.aload_n 0, 1) := by decide +kernel
theorem dX9_whySinks_6 : decode cX9_whySinks 6 = .ok (.getfield 29, 3) := by decide +kernel
theorem dX9_whySinks_9 : decode cX9_whySinks 9 = .ok (.iconst 1, 1) := by decide +kernel
theorem dX9_whySinks_10 : decode cX9_whySinks 10 = .ok (.iaload, 1) := by decide +kernel
theorem dX9_whySinks_11 : decode cX9_whySinks 11 = .ok (.if_icmp .lt 7, 3) := by decide +kernel
theorem dX9_whySinks_14 : decode cX9_whySinks 14 = .ok (.iconst 1, 1) := by decide +kernel
theorem dX9_whySinks_15 : decode cX9_whySinks 15 = .ok (.goto 40, 3) := by decide +kernel
theorem dX9_whySinks_18 : decode cX9_whySinks 18 = .ok (.aload_n 0, 1) := by decide +kernel
theorem dX9_whySinks_19 : decode cX9_whySinks 19 = .ok (.iload_n 1, 1) := by decide +kernel
theorem dX9_whySinks_20 : decode cX9_whySinks 20 = .ok (.invokevirtual 205, 3) := by decide +kernel
theorem dX9_whySinks_23 : decode cX9_whySinks 23 = .ok (.aload_n 0, 1) := by decide +kernel
theorem dX9_whySinks_24 : decode cX9_whySinks 24 = .ok (.getfield 29, 3) := by decide +kernel
theorem dX9_whySinks_27 : decode cX9_whySinks 27 = .ok (.iconst 2, 1) := by decide +kernel
theorem dX9_whySinks_28 : decode cX9_whySinks 28 = .ok (.iaload, 1) := by decide +kernel
theorem dX9_whySinks_29 : decode cX9_whySinks 29 = .ok (.if_icmp .le 7, 3) := by decide +kernel
theorem dX9_whySinks_32 : decode cX9_whySinks 32 = .ok (.iconst 2, 1) := by decide +kernel
theorem dX9_whySinks_33 : decode cX9_whySinks 33 = .ok (.goto 22, 3) := by decide +kernel
theorem dX9_whySinks_36 : decode cX9_whySinks 36 = .ok (.aload_n 0, 1) := by decide +kernel
theorem dX9_whySinks_37 : decode cX9_whySinks 37 = .ok (.iload_n 1, 1) := by decide +kernel
theorem dX9_whySinks_38 : decode cX9_whySinks 38 = .ok (.invokevirtual 208, 3) := by decide +kernel
theorem dX9_whySinks_41 : decode cX9_whySinks 41 = .ok (.aload_n 0, 1) := by decide +kernel
theorem dX9_whySinks_42 : decode cX9_whySinks 42 = .ok (.getfield 29, 3) := by decide +kernel
theorem dX9_whySinks_45 : decode cX9_whySinks 45 = .ok (.iconst 3, 1) := by decide +kernel
theorem dX9_whySinks_46 : decode cX9_whySinks 46 = .ok (.iaload, 1) := by decide +kernel
theorem dX9_whySinks_47 : decode cX9_whySinks 47 = .ok (.if_icmp .le 7, 3) := by decide +kernel
theorem dX9_whySinks_50 : decode cX9_whySinks 50 = .ok (.iconst 3, 1) := by decide +kernel
theorem dX9_whySinks_51 : decode cX9_whySinks 51 = .ok (.goto 4, 3) := by decide +kernel
theorem dX9_whySinks_54 : decode cX9_whySinks 54 = .ok (.iconst 0, 1) := by decide +kernel
theorem dX9_whySinks_55 : decode cX9_whySinks 55 = .ok (.ireturn, 1) := by decide +kernel
theorem dX9_sees_0 : decode cX9_sees 0 = .ok (.aload_n 0, 1) := by decide +kernel
theorem dX9_sees_1 : decode cX9_sees 1 = .ok (.getfield 7, 3) := by decide +kernel
theorem dX9_sees_4 : decode cX9_sees 4 = .ok (.iload_n 1, 1) := by decide +kernel
theorem dX9_sees_5 : decode cX9_sees 5 = .ok (.bipush 72, 2) := by decide +kernel
theorem dX9_sees_7 : decode cX9_sees 7 = .ok (.iadd, 1) := by decide +kernel
theorem dX9_sees_8 : decode cX9_sees 8 = .ok (.iaload, 1) := by decide +kernel
theorem dX9_sees_9 : decode cX9_sees 9 = .ok (.ifCond .ne 52, 3) := by decide +kernel
theorem dX9_sees_12 : decode cX9_sees 12 = .ok (.aload_n 0, 1) := by decide +kernel
theorem dX9_sees_13 : decode cX9_sees 13 = .ok (.getfield 7, 3) := by decide +kernel
theorem dX9_sees_16 : decode cX9_sees 16 = .ok (.iload_n 1, 1) := by decide +kernel
theorem dX9_sees_17 : decode cX9_sees 17 = .ok (.bipush 72, 2) := by decide +kernel
theorem dX9_sees_19 : decode cX9_sees 19 = .ok (.iadd, 1) := by decide +kernel
theorem dX9_sees_20 : decode cX9_sees 20 = .ok (.aload_n 0, 1) := by decide +kernel
theorem dX9_sees_21 : decode cX9_sees 21 = .ok (.iload_n 1, 1) := by decide +kernel
theorem dX9_sees_22 : decode cX9_sees 22 = .ok (.invokevirtual 211, 3) := by decide +kernel
theorem dX9_sees_25 : decode cX9_sees 25 = .ok (.iastore, 1) := by decide +kernel
theorem dX9_sees_26 : decode cX9_sees 26 = .ok (.aload_n 0, 1) := by decide +kernel
theorem dX9_sees_27 : decode cX9_sees 27 = .ok (.getfield 7, 3) := by decide +kernel
theorem dX9_sees_30 : decode cX9_sees 30 = .ok (.iload_n 1, 1) := by decide +kernel
theorem dX9_sees_31 : decode cX9_sees 31 = .ok (.bipush 73, 2) := by decide +kernel
theorem dX9_sees_33 : decode cX9_sees 33 = .ok (.iadd, 1) := by decide +kernel
theorem dX9_sees_34 : decode cX9_sees 34 = .ok (.aload_n 0, 1) := by decide +kernel
theorem dX9_sees_35 : decode cX9_sees 35 = .ok (.getfield 7, 3) := by decide +kernel
theorem dX9_sees_38 : decode cX9_sees 38 = .ok (.iload_n 1, 1) := by decide +kernel
theorem dX9_sees_39 : decode cX9_sees 39 = .ok (.bipush 72, 2) := by decide +kernel
theorem dX9_sees_41 : decode cX9_sees 41 = .ok (.iadd, 1) := by decide +kernel
theorem dX9_sees_42 : decode cX9_sees 42 = .ok (.iaload, 1) := by decide +kernel
theorem dX9_sees_43 : decode cX9_sees 43 = .ok (.ifCond .le 15, 3) := by decide +kernel
theorem dX9_sees_46 : decode cX9_sees 46 = .ok (.aload_n 0, 1) := by decide +kernel
theorem dX9_sees_47 : decode cX9_sees 47 = .ok (.getfield 7, 3) := by decide +kernel
theorem dX9_sees_50 : decode cX9_sees 50 = .ok (.iload_n 1, 1) := by decide +kernel
theorem dX9_sees_51 : decode cX9_sees 51 = .ok (.bipush 71, 2) := by decide +kernel
theorem dX9_sees_53 : decode cX9_sees 53 = .ok (.iadd, 1) := by decide +kernel
theorem dX9_sees_54 : decode cX9_sees 54 = .ok (.iaload, 1) := by decide +kernel
theorem dX9_sees_55 : decode cX9_sees 55 = .ok (.goto 5, 3) := by decide +kernel
theorem dX9_sees_58 : decode cX9_sees 58 = .ok (.bipush (-4), 2) := by decide +kernel
theorem dX9_sees_60 : decode cX9_sees 60 = .ok (.iastore, 1) := by decide +kernel
theorem dX9_sees_61 : decode cX9_sees 61 = .ok (.return_, 1) := by decide +kernel
theorem dX9_heightOf_0 : decode cX9_heightOf 0 = .ok (.bipush 12, 2) := by decide +kernel
theorem dX9_heightOf_2 : decode cX9_heightOf 2 = .ok (.aload_n 0, 1) := by decide +kernel
theorem dX9_heightOf_3 : decode cX9_heightOf 3 = .ok (.getfield 7, 3) := by decide +kernel
theorem dX9_heightOf_6 : decode cX9_heightOf 6 = .ok (.iload_n 1, 1) := by decide +kernel
theorem dX9_heightOf_7 : decode cX9_heightOf 7 = .ok (.iconst 0, 1) := by decide +kernel
theorem dX9_heightOf_8 : decode cX9_heightOf 8 = .ok (.iadd, 1) := by decide +kernel
theorem dX9_heightOf_9 : decode cX9_heightOf 9 = .ok (.iload_n 2, 1) := by decide +kernel
theorem dX9_heightOf_10 : decode cX9_heightOf 10 = .ok (.iadd, 1) := by decide +kernel
theorem dX9_heightOf_11 : decode cX9_heightOf 11 = .ok (.iaload, 1) := by decide +kernel
theorem dX9_heightOf_12 : decode cX9_heightOf 12 = .ok (.imul, 1) := by decide +kernel
theorem dX9_heightOf_13 : decode cX9_heightOf 13 = .ok (.aload_n 0, 1) := by decide +kernel
theorem dX9_heightOf_14 : decode cX9_heightOf 14 = .ok (.getfield 17, 3) := by decide +kernel
theorem dX9_heightOf_17 : decode cX9_heightOf 17 = .ok (.iconst 4, 1) := by decide +kernel
theorem dX9_heightOf_18 : decode cX9_heightOf 18 = .ok (.iload_n 2, 1) := by decide +kernel
theorem dX9_heightOf_19 : decode cX9_heightOf 19 = .ok (.imul, 1) := by decide +kernel
theorem dX9_heightOf_20 : decode cX9_heightOf 20 = .ok (.iaload, 1) := by decide +kernel
theorem dX9_heightOf_21 : decode cX9_heightOf 21 = .ok (.idiv, 1) := by decide +kernel
theorem dX9_heightOf_22 : decode cX9_heightOf 22 = .ok (.ireturn, 1) := by decide +kernel
theorem dX9_room_0 : decode cX9_room 0 = .ok (.aload_n 0, 1) := by decide +kernel
theorem dX9_room_1 : decode cX9_room 1 = .ok (.getfield 17, 3) := by decide +kernel
theorem dX9_room_4 : decode cX9_room 4 = .ok (.iconst 4, 1) := by decide +kernel
theorem dX9_room_5 : decode cX9_room 5 = .ok (.iload_n 2, 1) := by decide +kernel
theorem dX9_room_6 : decode cX9_room 6 = .ok (.imul, 1) := by decide +kernel
theorem dX9_room_7 : decode cX9_room 7 = .ok (.iaload, 1) := by decide +kernel
theorem dX9_room_8 : decode cX9_room 8 = .ok (.aload_n 0, 1) := by decide +kernel
theorem dX9_room_9 : decode cX9_room 9 = .ok (.getfield 7, 3) := by decide +kernel
theorem dX9_room_12 : decode cX9_room 12 = .ok (.iload_n 1, 1) := by decide +kernel
theorem dX9_room_13 : decode cX9_room 13 = .ok (.iconst 0, 1) := by decide +kernel
theorem dX9_room_14 : decode cX9_room 14 = .ok (.iadd, 1) := by decide +kernel
theorem dX9_room_15 : decode cX9_room 15 = .ok (.iload_n 2, 1) := by decide +kernel
theorem dX9_room_16 : decode cX9_room 16 = .ok (.iadd, 1) := by decide +kernel
theorem dX9_room_17 : decode cX9_room 17 = .ok (.iaload, 1) := by decide +kernel
theorem dX9_room_18 : decode cX9_room 18 = .ok (.isub, 1) := by decide +kernel
theorem dX9_room_19 : decode cX9_room 19 = .ok (.ireturn, 1) := by decide +kernel
theorem dX9_aTon_0 : decode cX9_aTon 0 = .ok (.aload_n 0, 1) := by decide +kernel
theorem dX9_aTon_1 : decode cX9_aTon 1 = .ok (.getfield 20, 3) := by decide +kernel
theorem dX9_aTon_4 : decode cX9_aTon 4 = .ok (.bipush 6, 2) := by decide +kernel
theorem dX9_aTon_6 : decode cX9_aTon 6 = .ok (.iload_n 2, 1) := by decide +kernel
theorem dX9_aTon_7 : decode cX9_aTon 7 = .ok (.imul, 1) := by decide +kernel
theorem dX9_aTon_8 : decode cX9_aTon 8 = .ok (.iaload, 1) := by decide +kernel
theorem dX9_aTon_9 : decode cX9_aTon 9 = .ok (.istore_n 3, 1) := by decide +kernel
theorem dX9_aTon_10 : decode cX9_aTon 10 = .ok (.aload_n 0, 1) := by decide +kernel
theorem dX9_aTon_11 : decode cX9_aTon 11 = .ok (.getfield 20, 3) := by decide +kernel
theorem dX9_aTon_14 : decode cX9_aTon 14 = .ok (.bipush 6, 2) := by decide +kernel
theorem dX9_aTon_16 : decode cX9_aTon 16 = .ok (.iload_n 2, 1) := by decide +kernel
theorem dX9_aTon_17 : decode cX9_aTon 17 = .ok (.imul, 1) := by decide +kernel
theorem dX9_aTon_18 : decode cX9_aTon 18 = .ok (.iconst 1, 1) := by decide +kernel
theorem dX9_aTon_19 : decode cX9_aTon 19 = .ok (.iadd, 1) := by decide +kernel
theorem dX9_aTon_20 : decode cX9_aTon 20 = .ok (.iaload, 1) := by decide +kernel
theorem dX9_aTon_21 : decode cX9_aTon 21 = .ok (.istore 4, 2) := by decide +kernel
theorem dX9_aTon_23 : decode cX9_aTon 23 = .ok (.aload_n 0, 1) := by decide +kernel
theorem dX9_aTon_24 : decode cX9_aTon 24 = .ok (.iload_n 1, 1) := by decide +kernel
theorem dX9_aTon_25 : decode cX9_aTon 25 = .ok (.iload_n 3, 1) := by decide +kernel
theorem dX9_aTon_26 : decode cX9_aTon 26 = .ok (.invokevirtual 214, 3) := by decide +kernel
theorem dX9_aTon_29 : decode cX9_aTon 29 = .ok (.aload_n 0, 1) := by decide +kernel
theorem dX9_aTon_30 : decode cX9_aTon 30 = .ok (.iload_n 1, 1) := by decide +kernel
theorem dX9_aTon_31 : decode cX9_aTon 31 = .ok (.iload 4, 2) := by decide +kernel
theorem dX9_aTon_33 : decode cX9_aTon 33 = .ok (.invokevirtual 214, 3) := by decide +kernel
theorem dX9_aTon_36 : decode cX9_aTon 36 = .ok (.if_icmp .le 7, 3) := by decide +kernel
theorem dX9_aTon_39 : decode cX9_aTon 39 = .ok (.iconst 1, 1) := by decide +kernel
theorem dX9_aTon_40 : decode cX9_aTon 40 = .ok (.goto 4, 3) := by decide +kernel
theorem dX9_aTon_43 : decode cX9_aTon 43 = .ok (.iconst 0, 1) := by decide +kernel
theorem dX9_aTon_44 : decode cX9_aTon 44 = .ok (.istore 5, 2) := by decide +kernel
theorem dX9_aTon_46 : decode cX9_aTon 46 = .ok (.iload 5, 2) := by decide +kernel
theorem dX9_aTon_48 : decode cX9_aTon 48 = .ok (.ifCond .eq 7, 3) := by decide +kernel
theorem dX9_aTon_51 : decode cX9_aTon 51 = .ok (.iload_n 3, 1) := by decide +kernel
theorem dX9_aTon_52 : decode cX9_aTon 52 = .ok (.goto 5, 3) := by decide +kernel
theorem dX9_aTon_55 : decode cX9_aTon 55 = .ok (.iload 4, 2) := by decide +kernel
theorem dX9_aTon_57 : decode cX9_aTon 57 = .ok (.istore 6, 2) := by decide +kernel
theorem dX9_aTon_59 : decode cX9_aTon 59 = .ok (.iload 5, 2) := by decide +kernel
theorem dX9_aTon_61 : decode cX9_aTon 61 = .ok (.ifCond .eq 8, 3) := by decide +kernel
theorem dX9_aTon_64 : decode cX9_aTon 64 = .ok (.iload 4, 2) := by decide +kernel
theorem dX9_aTon_66 : decode cX9_aTon 66 = .ok (.goto 4, 3) := by decide +kernel
theorem dX9_aTon_69 : decode cX9_aTon 69 = .ok (.iload_n 3, 1) := by decide +kernel
theorem dX9_aTon_70 : decode cX9_aTon 70 = .ok (.istore 7, 2) := by decide +kernel
theorem dX9_aTon_72 : decode cX9_aTon 72 = .ok (.aload_n 0, 1) := by decide +kernel
theorem dX9_aTon_73 : decode cX9_aTon 73 = .ok (.iload_n 1, 1) := by decide +kernel
theorem dX9_aTon_74 : decode cX9_aTon 74 = .ok (.iload 6, 2) := by decide +kernel
theorem dX9_aTon_76 : decode cX9_aTon 76 = .ok (.invokevirtual 214, 3) := by decide +kernel
theorem dX9_aTon_79 : decode cX9_aTon 79 = .ok (.aload_n 0, 1) := by decide +kernel
theorem dX9_aTon_80 : decode cX9_aTon 80 = .ok (.iload_n 1, 1) := by decide +kernel
theorem dX9_aTon_81 : decode cX9_aTon 81 = .ok (.iload 7, 2) := by decide +kernel
theorem dX9_aTon_83 : decode cX9_aTon 83 = .ok (.invokevirtual 214, 3) := by decide +kernel
theorem dX9_aTon_86 : decode cX9_aTon 86 = .ok (.if_icmp .le 38, 3) := by decide +kernel
theorem dX9_aTon_89 : decode cX9_aTon 89 = .ok (.aload_n 0, 1) := by decide +kernel
theorem dX9_aTon_90 : decode cX9_aTon 90 = .ok (.iload_n 1, 1) := by decide +kernel
theorem dX9_aTon_91 : decode cX9_aTon 91 = .ok (.iload 6, 2) := by decide +kernel
theorem dX9_aTon_93 : decode cX9_aTon 93 = .ok (.invokevirtual 214, 3) := by decide +kernel
theorem dX9_aTon_96 : decode cX9_aTon 96 = .ok (.aload_n 0, 1) := by decide +kernel
theorem dX9_aTon_97 : decode cX9_aTon 97 = .ok (.getfield 20, 3) := by decide +kernel
theorem dX9_aTon_100 : decode cX9_aTon 100 = .ok (.bipush 6, 2) := by decide +kernel
theorem dX9_aTon_102 : decode cX9_aTon 102 = .ok (.iload_n 2, 1) := by decide +kernel
theorem dX9_aTon_103 : decode cX9_aTon 103 = .ok (.imul, 1) := by decide +kernel
theorem dX9_aTon_104 : decode cX9_aTon 104 = .ok (.iconst 2, 1) := by decide +kernel
theorem dX9_aTon_105 : decode cX9_aTon 105 = .ok (.iadd, 1) := by decide +kernel
theorem dX9_aTon_106 : decode cX9_aTon 106 = .ok (.iaload, 1) := by decide +kernel
theorem dX9_aTon_107 : decode cX9_aTon 107 = .ok (.if_icmp .le 17, 3) := by decide +kernel
theorem dX9_aTon_110 : decode cX9_aTon 110 = .ok (.aload_n 0, 1) := by decide +kernel
theorem dX9_aTon_111 : decode cX9_aTon 111 = .ok (.iload_n 1, 1) := by decide +kernel
theorem dX9_aTon_112 : decode cX9_aTon 112 = .ok (.iload 7, 2) := by decide +kernel
theorem dX9_aTon_114 : decode cX9_aTon 114 = .ok (.invokevirtual 217, 3) := by decide +kernel
theorem dX9_aTon_117 : decode cX9_aTon 117 = .ok (.ifCond .le 7, 3) := by decide +kernel
theorem dX9_aTon_120 : decode cX9_aTon 120 = .ok (.iconst 1, 1) := by decide +kernel
theorem dX9_aTon_121 : decode cX9_aTon 121 = .ok (.goto 4, 3) := by decide +kernel
theorem dX9_aTon_124 : decode cX9_aTon 124 = .ok (.iconst 0, 1) := by decide +kernel
theorem dX9_aTon_125 : decode cX9_aTon 125 = .ok (.istore 8, 2) := by decide +kernel
theorem dX9_aTon_127 : decode cX9_aTon 127 = .ok (.aload_n 0, 1) := by decide +kernel
theorem dX9_aTon_128 : decode cX9_aTon 128 = .ok (.getfield 7, 3) := by decide +kernel
theorem dX9_aTon_131 : decode cX9_aTon 131 = .ok (.iload_n 1, 1) := by decide +kernel
theorem dX9_aTon_132 : decode cX9_aTon 132 = .ok (.iconst 0, 1) := by decide +kernel
theorem dX9_aTon_133 : decode cX9_aTon 133 = .ok (.iadd, 1) := by decide +kernel
theorem dX9_aTon_134 : decode cX9_aTon 134 = .ok (.iload 6, 2) := by decide +kernel
theorem dX9_aTon_136 : decode cX9_aTon 136 = .ok (.iadd, 1) := by decide +kernel
theorem dX9_aTon_137 : decode cX9_aTon 137 = .ok (.dup2, 1) := by decide +kernel
theorem dX9_aTon_138 : decode cX9_aTon 138 = .ok (.iaload, 1) := by decide +kernel
theorem dX9_aTon_139 : decode cX9_aTon 139 = .ok (.iload 8, 2) := by decide +kernel
theorem dX9_aTon_141 : decode cX9_aTon 141 = .ok (.invokestatic 174, 3) := by decide +kernel
theorem dX9_aTon_144 : decode cX9_aTon 144 = .ok (.isub, 1) := by decide +kernel
theorem dX9_aTon_145 : decode cX9_aTon 145 = .ok (.iastore, 1) := by decide +kernel
theorem dX9_aTon_146 : decode cX9_aTon 146 = .ok (.aload_n 0, 1) := by decide +kernel
theorem dX9_aTon_147 : decode cX9_aTon 147 = .ok (.getfield 7, 3) := by decide +kernel
theorem dX9_aTon_150 : decode cX9_aTon 150 = .ok (.iload_n 1, 1) := by decide +kernel
theorem dX9_aTon_151 : decode cX9_aTon 151 = .ok (.iconst 0, 1) := by decide +kernel
theorem dX9_aTon_152 : decode cX9_aTon 152 = .ok (.iadd, 1) := by decide +kernel
theorem dX9_aTon_153 : decode cX9_aTon 153 = .ok (.iload 7, 2) := by decide +kernel
theorem dX9_aTon_155 : decode cX9_aTon 155 = .ok (.iadd, 1) := by decide +kernel
theorem dX9_aTon_156 : decode cX9_aTon 156 = .ok (.dup2, 1) := by decide +kernel
theorem dX9_aTon_157 : decode cX9_aTon 157 = .ok (.iaload, 1) := by decide +kernel
theorem dX9_aTon_158 : decode cX9_aTon 158 = .ok (.iload 8, 2) := by decide +kernel
theorem dX9_aTon_160 : decode cX9_aTon 160 = .ok (.invokestatic 174, 3) := by decide +kernel
theorem dX9_aTon_163 : decode cX9_aTon 163 = .ok (.iadd, 1) := by decide +kernel
theorem dX9_aTon_164 : decode cX9_aTon 164 = .ok (.iastore, 1) := by decide +kernel
theorem dX9_aTon_165 : decode cX9_aTon 165 = .ok (.return_, 1) := by decide +kernel
theorem dX9_comesIn_0 : decode cX9_comesIn 0 = .ok (.aload_n 0, 1) := by decide +kernel
theorem dX9_comesIn_1 : decode cX9_comesIn 1 = .ok (.getfield 23, 3) := by decide +kernel
theorem dX9_comesIn_4 : decode cX9_comesIn 4 = .ok (.iconst 3, 1) := by decide +kernel
theorem dX9_comesIn_5 : decode cX9_comesIn 5 = .ok (.iload_n 2, 1) := by decide +kernel
theorem dX9_comesIn_6 : decode cX9_comesIn 6 = .ok (.imul, 1) := by decide +kernel
theorem dX9_comesIn_7 : decode cX9_comesIn 7 = .ok (.iaload, 1) := by decide +kernel
theorem dX9_comesIn_8 : decode cX9_comesIn 8 = .ok (.istore_n 3, 1) := by decide +kernel
theorem dX9_comesIn_9 : decode cX9_comesIn 9 = .ok (.aload_n 0, 1) := by decide +kernel
theorem dX9_comesIn_10 : decode cX9_comesIn 10 = .ok (.getfield 7, 3) := by decide +kernel
theorem dX9_comesIn_13 : decode cX9_comesIn 13 = .ok (.iload_n 1, 1) := by decide +kernel
theorem dX9_comesIn_14 : decode cX9_comesIn 14 = .ok (.bipush 36, 2) := by decide +kernel
theorem dX9_comesIn_16 : decode cX9_comesIn 16 = .ok (.iadd, 1) := by decide +kernel
theorem dX9_comesIn_17 : decode cX9_comesIn 17 = .ok (.iload_n 2, 1) := by decide +kernel
theorem dX9_comesIn_18 : decode cX9_comesIn 18 = .ok (.iadd, 1) := by decide +kernel
theorem dX9_comesIn_19 : decode cX9_comesIn 19 = .ok (.iaload, 1) := by decide +kernel
theorem dX9_comesIn_20 : decode cX9_comesIn 20 = .ok (.iconst 1, 1) := by decide +kernel
theorem dX9_comesIn_21 : decode cX9_comesIn 21 = .ok (.if_icmp .ne 20, 3) := by decide +kernel
theorem dX9_comesIn_24 : decode cX9_comesIn 24 = .ok (.aload_n 0, 1) := by decide +kernel
theorem dX9_comesIn_25 : decode cX9_comesIn 25 = .ok (.getfield 23, 3) := by decide +kernel
theorem dX9_comesIn_28 : decode cX9_comesIn 28 = .ok (.iconst 3, 1) := by decide +kernel
theorem dX9_comesIn_29 : decode cX9_comesIn 29 = .ok (.iload_n 2, 1) := by decide +kernel
theorem dX9_comesIn_30 : decode cX9_comesIn 30 = .ok (.imul, 1) := by decide +kernel
theorem dX9_comesIn_31 : decode cX9_comesIn 31 = .ok (.iconst 1, 1) := by decide +kernel
theorem dX9_comesIn_32 : decode cX9_comesIn 32 = .ok (.iadd, 1) := by decide +kernel
theorem dX9_comesIn_33 : decode cX9_comesIn 33 = .ok (.iaload, 1) := by decide +kernel
theorem dX9_comesIn_34 : decode cX9_comesIn 34 = .ok (.iconst 1, 1) := by decide +kernel
theorem dX9_comesIn_35 : decode cX9_comesIn 35 = .ok (.iadd, 1) := by decide +kernel
theorem dX9_comesIn_36 : decode cX9_comesIn 36 = .ok (.iconst 2, 1) := by decide +kernel
theorem dX9_comesIn_37 : decode cX9_comesIn 37 = .ok (.idiv, 1) := by decide +kernel
theorem dX9_comesIn_38 : decode cX9_comesIn 38 = .ok (.goto 13, 3) := by decide +kernel
theorem dX9_comesIn_41 : decode cX9_comesIn 41 = .ok (.aload_n 0, 1) := by decide +kernel
theorem dX9_comesIn_42 : decode cX9_comesIn 42 = .ok (.getfield 23, 3) := by decide +kernel
theorem dX9_comesIn_45 : decode cX9_comesIn 45 = .ok (.iconst 3, 1) := by decide +kernel
theorem dX9_comesIn_46 : decode cX9_comesIn 46 = .ok (.iload_n 2, 1) := by decide +kernel
theorem dX9_comesIn_47 : decode cX9_comesIn 47 = .ok (.imul, 1) := by decide +kernel
theorem dX9_comesIn_48 : decode cX9_comesIn 48 = .ok (.iconst 1, 1) := by decide +kernel
theorem dX9_comesIn_49 : decode cX9_comesIn 49 = .ok (.iadd, 1) := by decide +kernel
theorem dX9_comesIn_50 : decode cX9_comesIn 50 = .ok (.iaload, 1) := by decide +kernel
theorem dX9_comesIn_51 : decode cX9_comesIn 51 = .ok (.istore 4, 2) := by decide +kernel
theorem dX9_comesIn_53 : decode cX9_comesIn 53 = .ok (.iload 4, 2) := by decide +kernel
theorem dX9_comesIn_55 : decode cX9_comesIn 55 = .ok (.bipush 12, 2) := by decide +kernel
theorem dX9_comesIn_57 : decode cX9_comesIn 57 = .ok (.aload_n 0, 1) := by decide +kernel
theorem dX9_comesIn_58 : decode cX9_comesIn 58 = .ok (.iload_n 1, 1) := by decide +kernel
theorem dX9_comesIn_59 : decode cX9_comesIn 59 = .ok (.iload_n 3, 1) := by decide +kernel
theorem dX9_comesIn_60 : decode cX9_comesIn 60 = .ok (.invokevirtual 214, 3) := by decide +kernel
theorem dX9_comesIn_63 : decode cX9_comesIn 63 = .ok (.isub, 1) := by decide +kernel
theorem dX9_comesIn_64 : decode cX9_comesIn 64 = .ok (.imul, 1) := by decide +kernel
theorem dX9_comesIn_65 : decode cX9_comesIn 65 = .ok (.bipush 11, 2) := by decide +kernel
theorem dX9_comesIn_67 : decode cX9_comesIn 67 = .ok (.iadd, 1) := by decide +kernel
theorem dX9_comesIn_68 : decode cX9_comesIn 68 = .ok (.bipush 12, 2) := by decide +kernel
theorem dX9_comesIn_70 : decode cX9_comesIn 70 = .ok (.idiv, 1) := by decide +kernel
theorem dX9_comesIn_71 : decode cX9_comesIn 71 = .ok (.istore 5, 2) := by decide +kernel
theorem dX9_comesIn_73 : decode cX9_comesIn 73 = .ok (.iload 5, 2) := by decide +kernel
theorem dX9_comesIn_75 : decode cX9_comesIn 75 = .ok (.aload_n 0, 1) := by decide +kernel
theorem dX9_comesIn_76 : decode cX9_comesIn 76 = .ok (.iload_n 1, 1) := by decide +kernel
theorem dX9_comesIn_77 : decode cX9_comesIn 77 = .ok (.iload_n 3, 1) := by decide +kernel
theorem dX9_comesIn_78 : decode cX9_comesIn 78 = .ok (.invokevirtual 217, 3) := by decide +kernel
theorem dX9_comesIn_81 : decode cX9_comesIn 81 = .ok (.if_icmp .ge 8, 3) := by decide +kernel
theorem dX9_comesIn_84 : decode cX9_comesIn 84 = .ok (.iload 5, 2) := by decide +kernel
theorem dX9_comesIn_86 : decode cX9_comesIn 86 = .ok (.goto 9, 3) := by decide +kernel
theorem dX9_comesIn_89 : decode cX9_comesIn 89 = .ok (.aload_n 0, 1) := by decide +kernel
theorem dX9_comesIn_90 : decode cX9_comesIn 90 = .ok (.iload_n 1, 1) := by decide +kernel
theorem dX9_comesIn_91 : decode cX9_comesIn 91 = .ok (.iload_n 3, 1) := by decide +kernel
theorem dX9_comesIn_92 : decode cX9_comesIn 92 = .ok (.invokevirtual 217, 3) := by decide +kernel
theorem dX9_comesIn_95 : decode cX9_comesIn 95 = .ok (.ireturn, 1) := by decide +kernel
def b_X9_listOf_4 (m : Mm) (a1 : Int32) (t1 : Int32 × Int32) : Option ((Int32 × Int32) ⊕ (Int32)) :=
  if (m 113 2) ≤ t1.2 then (some (Sum.inr t1.1)) else ((ald m 116 32 (((4 : Int32) * t1.2) + (1 : Int32))).bind fun x3 => (ald m 114 512 ((a1 + (0 : Int32)) + t1.2)).bind fun x4 => letv (t1.1 + ((x3 - (1 : Int32)) * x4)) fun x5 => some (Sum.inl (x5, t1.2 + 1)))
def f_X9_listOf (F : Nat) (m : Mm) (a1 : Int32) : Option (Int32) :=
  (iter F (b_X9_listOf_4 m a1) ((0, 0) : Int32 × Int32)).bind (fun e2 : Int32 => (f_X9_size e2).bind fun x6 => (odiv x6 (2 : Int32)).bind fun x8 => some x8)
set_option maxHeartbeats 4000000 in
set_option maxRecDepth 100000 in
theorem ct_X9_listOf (F : Nat) {n : Nat} (hn : 135 ≤ n) (P D : Nat) (T : Option Nat) (m : Mm) (a1 : Int32) : Ct yX9_listOf cX9_listOf 4 (some .int) 1 20 [.ref 113, .int a1] n n m (RF P D T) (rP m (RF P D T) (f_X9_listOf F m a1)) := by
  refine Ct.ofP (own := RX9) (nm := "listOf") [(0, .ref 113), (1, .int a1)] (by decide) (Nat.le_of_ble_eq_true rfl) rfl rfl rfl ?_
  unfold f_X9_listOf
  refine J_iconst 0 dX9_listOf_0 (by decide) ?_
  refine J_istore_n 2 [(2, .int 0), (0, .ref 113), (1, .int a1)] dX9_listOf_1 rfl (by decide) rfl ?_
  refine J_iconst 0 dX9_listOf_2 (by decide) ?_
  refine J_istore_n 3 [(3, .int 0), (2, .int 0), (0, .ref 113), (1, .int a1)] dX9_listOf_3 rfl (by decide) rfl ?_
  refine J_lv [2, 3, 1, 0] rfl ?_
  refine J_loop (pc := 4) (fun t1 : Int32 × Int32 => [(0, .ref 113), (1, .int a1), (2, .int t1.1), (3, .int t1.2)]) (fun t1 => m) (fun _ => 44) (fun e2 => [(2, .int e2)]) (fun _ => []) (fun e2 => m) ?_ (fun t1 k1 hBt1 hXt1 => ?_) F ((0, 0))
  · refine fun e2 => ?_
    refine J_iload_n 2 0 e2 dX9_listOf_44 rfl rfl ?_
    refine J_callSP 1 [.int e2] dX9_listOf_45 mv_X9_size mv_X9_sizes lk_9_199 (ct_X9_size F hn P D T m e2) rfl ⟨by decide, by decide⟩ (Nat.le_of_ble_eq_true rfl) (fun x6 => ?_)
    refine J_iconst 2 dX9_listOf_48 (by decide) ?_
    refine J_idiv dX9_listOf_49 (fun x8 => ?_)
    exact J_iretP dX9_listOf_50 rfl rfl
  · unfold b_X9_listOf_4
    refine J_iload_n 3 3 t1.2 dX9_listOf_4 rfl rfl ?_
    refine J_aload_n 0 0 113 dX9_listOf_5 rfl rfl ?_
    refine J_getI 113 9 2 dX9_listOf_6 fl_9_93 rfl rfl (Nat.lt_of_lt_of_le (Nat.le_of_ble_eq_true rfl) hn) ?_
    refine J_icmp_ge 44 dX9_listOf_9 (by decide) ?_ ?_
    · exact J_lv [2] rfl (hXt1 t1.1)
    · refine J_iload_n 2 2 t1.1 dX9_listOf_12 rfl rfl ?_
      refine J_aload_n 0 0 113 dX9_listOf_13 rfl rfl ?_
      refine J_getR 113 9 3 116 dX9_listOf_14 fl_9_17 rfl rfl (Nat.lt_of_lt_of_le (Nat.le_of_ble_eq_true rfl) hn) rfl ?_
      refine J_iconst 4 dX9_listOf_17 (by decide) ?_
      refine J_iload_n 3 3 t1.2 dX9_listOf_18 rfl rfl ?_
      refine J_imul dX9_listOf_19 ?_
      refine J_iconst 1 dX9_listOf_20 (by decide) ?_
      refine J_iadd dX9_listOf_21 ?_
      refine J_iald 116 32 dX9_listOf_22 rfl (Nat.lt_of_lt_of_le (Nat.le_of_ble_eq_true rfl) hn) (fun x3 => ?_)
      refine J_iconst 1 dX9_listOf_23 (by decide) ?_
      refine J_isub dX9_listOf_24 ?_
      refine J_aload_n 0 0 113 dX9_listOf_25 rfl rfl ?_
      refine J_getR 113 9 0 114 dX9_listOf_26 fl_9_7 rfl rfl (Nat.lt_of_lt_of_le (Nat.le_of_ble_eq_true rfl) hn) rfl ?_
      refine J_iload_n 1 1 a1 dX9_listOf_29 rfl rfl ?_
      refine J_iconst 0 dX9_listOf_30 (by decide) ?_
      refine J_iadd dX9_listOf_31 ?_
      refine J_iload_n 3 3 t1.2 dX9_listOf_32 rfl rfl ?_
      refine J_iadd dX9_listOf_33 ?_
      refine J_iald 114 512 dX9_listOf_34 rfl (Nat.lt_of_lt_of_le (Nat.le_of_ble_eq_true rfl) hn) (fun x4 => ?_)
      refine J_imul dX9_listOf_35 ?_
      refine J_iadd dX9_listOf_36 ?_
      refine J_let (fun x5 => ?_)
      refine J_istore_n 2 [(2, .int x5), (0, .ref 113), (1, .int a1), (3, .int t1.2)] dX9_listOf_37 rfl (by decide) rfl ?_
      refine J_iinc 3 3 [(3, .int (t1.2 + 1)), (2, .int x5), (0, .ref 113), (1, .int a1)] t1.2 (t1.2 + 1) dX9_listOf_38 rfl rfl (by decide) rfl ?_
      refine J_goto 4 dX9_listOf_41 (by decide) ?_
      exact J_lv [2, 3, 1, 0] rfl (hBt1 (x5, t1.2 + 1))
def b_X9_trimOf_4 (m : Mm) (a1 : Int32) (t1 : Int32 × Int32) : Option ((Int32 × Int32) ⊕ (Int32)) :=
  if (m 113 2) ≤ t1.2 then (some (Sum.inr t1.1)) else ((ald m 116 32 (((4 : Int32) * t1.2) + (2 : Int32))).bind fun x3 => (ald m 114 512 ((a1 + (0 : Int32)) + t1.2)).bind fun x4 => letv (t1.1 + ((x3 - (9 : Int32)) * x4)) fun x5 => some (Sum.inl (x5, t1.2 + 1)))
def f_X9_trimOf (F : Nat) (m : Mm) (a1 : Int32) : Option (Int32) :=
  (iter F (b_X9_trimOf_4 m a1) ((0, 0) : Int32 × Int32)).bind (fun e2 : Int32 => (f_X9_size e2).bind fun x6 => (odiv x6 (10 : Int32)).bind fun x8 => some x8)
set_option maxHeartbeats 4000000 in
set_option maxRecDepth 100000 in
theorem ct_X9_trimOf (F : Nat) {n : Nat} (hn : 135 ≤ n) (P D : Nat) (T : Option Nat) (m : Mm) (a1 : Int32) : Ct yX9_trimOf cX9_trimOf 4 (some .int) 1 20 [.ref 113, .int a1] n n m (RF P D T) (rP m (RF P D T) (f_X9_trimOf F m a1)) := by
  refine Ct.ofP (own := RX9) (nm := "trimOf") [(0, .ref 113), (1, .int a1)] (by decide) (Nat.le_of_ble_eq_true rfl) rfl rfl rfl ?_
  unfold f_X9_trimOf
  refine J_iconst 0 dX9_trimOf_0 (by decide) ?_
  refine J_istore_n 2 [(2, .int 0), (0, .ref 113), (1, .int a1)] dX9_trimOf_1 rfl (by decide) rfl ?_
  refine J_iconst 0 dX9_trimOf_2 (by decide) ?_
  refine J_istore_n 3 [(3, .int 0), (2, .int 0), (0, .ref 113), (1, .int a1)] dX9_trimOf_3 rfl (by decide) rfl ?_
  refine J_lv [2, 3, 1, 0] rfl ?_
  refine J_loop (pc := 4) (fun t1 : Int32 × Int32 => [(0, .ref 113), (1, .int a1), (2, .int t1.1), (3, .int t1.2)]) (fun t1 => m) (fun _ => 45) (fun e2 => [(2, .int e2)]) (fun _ => []) (fun e2 => m) ?_ (fun t1 k1 hBt1 hXt1 => ?_) F ((0, 0))
  · refine fun e2 => ?_
    refine J_iload_n 2 0 e2 dX9_trimOf_45 rfl rfl ?_
    refine J_callSP 1 [.int e2] dX9_trimOf_46 mv_X9_size mv_X9_sizes lk_9_199 (ct_X9_size F hn P D T m e2) rfl ⟨by decide, by decide⟩ (Nat.le_of_ble_eq_true rfl) (fun x6 => ?_)
    refine J_bipush 10 dX9_trimOf_49 (by decide) ?_
    refine J_idiv dX9_trimOf_51 (fun x8 => ?_)
    exact J_iretP dX9_trimOf_52 rfl rfl
  · unfold b_X9_trimOf_4
    refine J_iload_n 3 3 t1.2 dX9_trimOf_4 rfl rfl ?_
    refine J_aload_n 0 0 113 dX9_trimOf_5 rfl rfl ?_
    refine J_getI 113 9 2 dX9_trimOf_6 fl_9_93 rfl rfl (Nat.lt_of_lt_of_le (Nat.le_of_ble_eq_true rfl) hn) ?_
    refine J_icmp_ge 45 dX9_trimOf_9 (by decide) ?_ ?_
    · exact J_lv [2] rfl (hXt1 t1.1)
    · refine J_iload_n 2 2 t1.1 dX9_trimOf_12 rfl rfl ?_
      refine J_aload_n 0 0 113 dX9_trimOf_13 rfl rfl ?_
      refine J_getR 113 9 3 116 dX9_trimOf_14 fl_9_17 rfl rfl (Nat.lt_of_lt_of_le (Nat.le_of_ble_eq_true rfl) hn) rfl ?_
      refine J_iconst 4 dX9_trimOf_17 (by decide) ?_
      refine J_iload_n 3 3 t1.2 dX9_trimOf_18 rfl rfl ?_
      refine J_imul dX9_trimOf_19 ?_
      refine J_iconst 2 dX9_trimOf_20 (by decide) ?_
      refine J_iadd dX9_trimOf_21 ?_
      refine J_iald 116 32 dX9_trimOf_22 rfl (Nat.lt_of_lt_of_le (Nat.le_of_ble_eq_true rfl) hn) (fun x3 => ?_)
      refine J_bipush 9 dX9_trimOf_23 (by decide) ?_
      refine J_isub dX9_trimOf_25 ?_
      refine J_aload_n 0 0 113 dX9_trimOf_26 rfl rfl ?_
      refine J_getR 113 9 0 114 dX9_trimOf_27 fl_9_7 rfl rfl (Nat.lt_of_lt_of_le (Nat.le_of_ble_eq_true rfl) hn) rfl ?_
      refine J_iload_n 1 1 a1 dX9_trimOf_30 rfl rfl ?_
      refine J_iconst 0 dX9_trimOf_31 (by decide) ?_
      refine J_iadd dX9_trimOf_32 ?_
      refine J_iload_n 3 3 t1.2 dX9_trimOf_33 rfl rfl ?_
      refine J_iadd dX9_trimOf_34 ?_
      refine J_iald 114 512 dX9_trimOf_35 rfl (Nat.lt_of_lt_of_le (Nat.le_of_ble_eq_true rfl) hn) (fun x4 => ?_)
      refine J_imul dX9_trimOf_36 ?_
      refine J_iadd dX9_trimOf_37 ?_
      refine J_let (fun x5 => ?_)
      refine J_istore_n 2 [(2, .int x5), (0, .ref 113), (1, .int a1), (3, .int t1.2)] dX9_trimOf_38 rfl (by decide) rfl ?_
      refine J_iinc 3 3 [(3, .int (t1.2 + 1)), (2, .int x5), (0, .ref 113), (1, .int a1)] t1.2 (t1.2 + 1) dX9_trimOf_39 rfl rfl (by decide) rfl ?_
      refine J_goto 4 dX9_trimOf_42 (by decide) ?_
      exact J_lv [2, 3, 1, 0] rfl (hBt1 (x5, t1.2 + 1))
def f_X9_whySinks (F : Nat) (m : Mm) (a1 : Int32) : Option (Int32) :=
  (f_X9_allOf F m a1).bind fun x1 => (ald m 120 5 1).bind fun x3 => if x1 < x3 then ((f_X9_listOf F m a1).bind fun x4 => (ald m 120 5 2).bind fun x6 => if x4 ≤ x6 then ((f_X9_trimOf F m a1).bind fun x7 => (ald m 120 5 3).bind fun x9 => if x7 ≤ x9 then (some 0) else (some 3)) else (some 2)) else (some 1)
set_option maxHeartbeats 4000000 in
set_option maxRecDepth 100000 in
theorem ct_X9_whySinks (F : Nat) {n : Nat} (hn : 135 ≤ n) (P D : Nat) (T : Option Nat) (m : Mm) (a1 : Int32) : Ct yX9_whySinks cX9_whySinks 2 (some .int) 2 43 [.ref 113, .int a1] n n m (RF P D T) (rP m (RF P D T) (f_X9_whySinks F m a1)) := by
  refine Ct.ofP (own := RX9) (nm := "whySinks") [(0, .ref 113), (1, .int a1)] (by decide) (Nat.le_of_ble_eq_true rfl) rfl rfl rfl ?_
  unfold f_X9_whySinks
  refine J_aload_n 0 0 113 dX9_whySinks_0 rfl rfl ?_
  refine J_iload_n 1 1 a1 dX9_whySinks_1 rfl rfl ?_
  refine J_callVP 113 9 1 [.int a1] dX9_whySinks_2 mv_X9_allOf mv_X9_allOfv lk_9_202 (ct_X9_allOf F hn P D T m a1) rfl rfl (by decide) rfl (Nat.lt_of_lt_of_le (Nat.le_of_ble_eq_true rfl) hn) ⟨by decide, by decide⟩ (Nat.le_of_ble_eq_true rfl) (fun x1 => ?_)
  refine J_aload_n 0 0 113 dX9_whySinks_5 rfl rfl ?_
  refine J_getR 113 9 10 120 dX9_whySinks_6 fl_9_29 rfl rfl (Nat.lt_of_lt_of_le (Nat.le_of_ble_eq_true rfl) hn) rfl ?_
  refine J_iconst 1 dX9_whySinks_9 (by decide) ?_
  refine J_iald 120 5 dX9_whySinks_10 rfl (Nat.lt_of_lt_of_le (Nat.le_of_ble_eq_true rfl) hn) (fun x3 => ?_)
  refine J_icmp_lt 18 dX9_whySinks_11 (by decide) ?_ ?_
  · refine J_aload_n 0 0 113 dX9_whySinks_18 rfl rfl ?_
    refine J_iload_n 1 1 a1 dX9_whySinks_19 rfl rfl ?_
    refine J_callVP 113 9 1 [.int a1] dX9_whySinks_20 mv_X9_listOf mv_X9_listOfv lk_9_205 (ct_X9_listOf F hn P D T m a1) rfl rfl (by decide) rfl (Nat.lt_of_lt_of_le (Nat.le_of_ble_eq_true rfl) hn) ⟨by decide, by decide⟩ (Nat.le_of_ble_eq_true rfl) (fun x4 => ?_)
    refine J_aload_n 0 0 113 dX9_whySinks_23 rfl rfl ?_
    refine J_getR 113 9 10 120 dX9_whySinks_24 fl_9_29 rfl rfl (Nat.lt_of_lt_of_le (Nat.le_of_ble_eq_true rfl) hn) rfl ?_
    refine J_iconst 2 dX9_whySinks_27 (by decide) ?_
    refine J_iald 120 5 dX9_whySinks_28 rfl (Nat.lt_of_lt_of_le (Nat.le_of_ble_eq_true rfl) hn) (fun x6 => ?_)
    refine J_icmp_le 36 dX9_whySinks_29 (by decide) ?_ ?_
    · refine J_aload_n 0 0 113 dX9_whySinks_36 rfl rfl ?_
      refine J_iload_n 1 1 a1 dX9_whySinks_37 rfl rfl ?_
      refine J_callVP 113 9 1 [.int a1] dX9_whySinks_38 mv_X9_trimOf mv_X9_trimOfv lk_9_208 (ct_X9_trimOf F hn P D T m a1) rfl rfl (by decide) rfl (Nat.lt_of_lt_of_le (Nat.le_of_ble_eq_true rfl) hn) ⟨by decide, by decide⟩ (Nat.le_of_ble_eq_true rfl) (fun x7 => ?_)
      refine J_aload_n 0 0 113 dX9_whySinks_41 rfl rfl ?_
      refine J_getR 113 9 10 120 dX9_whySinks_42 fl_9_29 rfl rfl (Nat.lt_of_lt_of_le (Nat.le_of_ble_eq_true rfl) hn) rfl ?_
      refine J_iconst 3 dX9_whySinks_45 (by decide) ?_
      refine J_iald 120 5 dX9_whySinks_46 rfl (Nat.lt_of_lt_of_le (Nat.le_of_ble_eq_true rfl) hn) (fun x9 => ?_)
      refine J_icmp_le 54 dX9_whySinks_47 (by decide) ?_ ?_
      · refine J_iconst 0 dX9_whySinks_54 (by decide) ?_
        exact J_iretP dX9_whySinks_55 rfl rfl
      · refine J_iconst 3 dX9_whySinks_50 (by decide) ?_
        refine J_goto 55 dX9_whySinks_51 (by decide) ?_
        exact J_iretP dX9_whySinks_55 rfl rfl
    · refine J_iconst 2 dX9_whySinks_32 (by decide) ?_
      refine J_goto 55 dX9_whySinks_33 (by decide) ?_
      exact J_iretP dX9_whySinks_55 rfl rfl
  · refine J_iconst 1 dX9_whySinks_14 (by decide) ?_
    refine J_goto 55 dX9_whySinks_15 (by decide) ?_
    exact J_iretP dX9_whySinks_55 rfl rfl
def f_X9_sees (F : Nat) (m : Mm) (a1 : Int32) : Option (Mm) :=
  (ald m 114 512 (a1 + (72 : Int32))).bind fun x1 => if x1 = 0 then ((f_X9_whySinks F m a1).bind fun x2 => (ast m 114 512 (a1 + (72 : Int32)) x2).bind fun m4 => (ald m4 114 512 (a1 + (72 : Int32))).bind fun x5 => (if x5 ≤ 0 then (some (-4)) else ((ald m4 114 512 (a1 + (71 : Int32))).bind fun x7 => some x7) : Option (Int32)).bind fun y6 => (ast m4 114 512 (a1 + (73 : Int32)) y6).bind fun m8 => some m8) else (some m)
set_option maxHeartbeats 4000000 in
set_option maxRecDepth 100000 in
theorem ct_X9_sees (F : Nat) {n : Nat} (hn : 135 ≤ n) (P D : Nat) (T : Option Nat) (m : Mm) (a1 : Int32) : Ct yX9_sees cX9_sees 2 none 3 64 [.ref 113, .int a1] n n m (RF P D T) (rV (RF P D T) (f_X9_sees F m a1)) := by
  refine Ct.ofV (own := RX9) (nm := "sees") [(0, .ref 113), (1, .int a1)] (by decide) (Nat.le_of_ble_eq_true rfl) rfl rfl rfl ?_
  unfold f_X9_sees
  refine J_aload_n 0 0 113 dX9_sees_0 rfl rfl ?_
  refine J_getR 113 9 0 114 dX9_sees_1 fl_9_7 rfl rfl (Nat.lt_of_lt_of_le (Nat.le_of_ble_eq_true rfl) hn) rfl ?_
  refine J_iload_n 1 1 a1 dX9_sees_4 rfl rfl ?_
  refine J_bipush 72 dX9_sees_5 (by decide) ?_
  refine J_iadd dX9_sees_7 ?_
  refine J_iald 114 512 dX9_sees_8 rfl (Nat.lt_of_lt_of_le (Nat.le_of_ble_eq_true rfl) hn) (fun x1 => ?_)
  refine J_if_ne 61 dX9_sees_9 (by decide) ?_ ?_
  · exact J_vretV dX9_sees_61 rfl rfl
  · refine J_aload_n 0 0 113 dX9_sees_12 rfl rfl ?_
    refine J_getR 113 9 0 114 dX9_sees_13 fl_9_7 rfl rfl (Nat.lt_of_lt_of_le (Nat.le_of_ble_eq_true rfl) hn) rfl ?_
    refine J_iload_n 1 1 a1 dX9_sees_16 rfl rfl ?_
    refine J_bipush 72 dX9_sees_17 (by decide) ?_
    refine J_iadd dX9_sees_19 ?_
    refine J_aload_n 0 0 113 dX9_sees_20 rfl rfl ?_
    refine J_iload_n 1 1 a1 dX9_sees_21 rfl rfl ?_
    refine J_callVP 113 9 1 [.int a1] dX9_sees_22 mv_X9_whySinks mv_X9_whySinksv lk_9_211 (ct_X9_whySinks F hn P D T m a1) rfl rfl (by decide) rfl (Nat.lt_of_lt_of_le (Nat.le_of_ble_eq_true rfl) hn) ⟨by decide, by decide⟩ (Nat.le_of_ble_eq_true rfl) (fun x2 => ?_)
    refine J_iast 114 512 dX9_sees_25 rfl (Nat.lt_of_lt_of_le (Nat.le_of_ble_eq_true rfl) hn) (fun m4 => ?_)
    refine J_aload_n 0 0 113 dX9_sees_26 rfl rfl ?_
    refine J_getR 113 9 0 114 dX9_sees_27 fl_9_7 rfl rfl (Nat.lt_of_lt_of_le (Nat.le_of_ble_eq_true rfl) hn) rfl ?_
    refine J_iload_n 1 1 a1 dX9_sees_30 rfl rfl ?_
    refine J_bipush 73 dX9_sees_31 (by decide) ?_
    refine J_iadd dX9_sees_33 ?_
    refine J_aload_n 0 0 113 dX9_sees_34 rfl rfl ?_
    refine J_getR 113 9 0 114 dX9_sees_35 fl_9_7 rfl rfl (Nat.lt_of_lt_of_le (Nat.le_of_ble_eq_true rfl) hn) rfl ?_
    refine J_iload_n 1 1 a1 dX9_sees_38 rfl rfl ?_
    refine J_bipush 72 dX9_sees_39 (by decide) ?_
    refine J_iadd dX9_sees_41 ?_
    refine J_iald 114 512 dX9_sees_42 rfl (Nat.lt_of_lt_of_le (Nat.le_of_ble_eq_true rfl) hn) (fun x5 => ?_)
    refine J_seqJ 60 (fun y6 : Int32 => []) (fun y6 => [.int y6, .int (a1 + (73 : Int32)), .ref 114]) (fun y6 => m4) (fun y6 => ?_) (fun k1 hEy6 => ?_)
    · refine J_iast 114 512 dX9_sees_60 rfl (Nat.lt_of_lt_of_le (Nat.le_of_ble_eq_true rfl) hn) (fun m8 => ?_)
      exact J_vretV dX9_sees_61 rfl rfl
    · refine J_if_le 58 dX9_sees_43 (by decide) ?_ ?_
      · refine J_bipush (-4) dX9_sees_58 (by decide) ?_
        exact J_lv [] rfl (hEy6 (-4))
      · refine J_aload_n 0 0 113 dX9_sees_46 rfl rfl ?_
        refine J_getR 113 9 0 114 dX9_sees_47 fl_9_7 rfl rfl (Nat.lt_of_lt_of_le (Nat.le_of_ble_eq_true rfl) hn) rfl ?_
        refine J_iload_n 1 1 a1 dX9_sees_50 rfl rfl ?_
        refine J_bipush 71 dX9_sees_51 (by decide) ?_
        refine J_iadd dX9_sees_53 ?_
        refine J_iald 114 512 dX9_sees_54 rfl (Nat.lt_of_lt_of_le (Nat.le_of_ble_eq_true rfl) hn) (fun x7 => ?_)
        refine J_goto 60 dX9_sees_55 (by decide) ?_
        exact J_lv [] rfl (hEy6 x7)
def f_X9_heightOf (m : Mm) (a1 : Int32) (a2 : Int32) : Option (Int32) :=
  (ald m 114 512 ((a1 + (0 : Int32)) + a2)).bind fun x1 => (ald m 116 32 ((4 : Int32) * a2)).bind fun x2 => (odiv ((12 : Int32) * x1) x2).bind fun x3 => some x3
set_option maxHeartbeats 4000000 in
set_option maxRecDepth 100000 in
theorem ct_X9_heightOf (F : Nat) {n : Nat} (hn : 135 ≤ n) (P D : Nat) (T : Option Nat) (m : Mm) (a1 : Int32) (a2 : Int32) : Ct yX9_heightOf cX9_heightOf 3 (some .int) 0 0 [.ref 113, .int a1, .int a2] n n m (RF P D T) (rP m (RF P D T) (f_X9_heightOf m a1 a2)) := by
  refine Ct.ofP (own := RX9) (nm := "heightOf") [(0, .ref 113), (1, .int a1), (2, .int a2)] (by decide) (Nat.le_of_ble_eq_true rfl) rfl rfl rfl ?_
  unfold f_X9_heightOf
  refine J_bipush 12 dX9_heightOf_0 (by decide) ?_
  refine J_aload_n 0 0 113 dX9_heightOf_2 rfl rfl ?_
  refine J_getR 113 9 0 114 dX9_heightOf_3 fl_9_7 rfl rfl (Nat.lt_of_lt_of_le (Nat.le_of_ble_eq_true rfl) hn) rfl ?_
  refine J_iload_n 1 1 a1 dX9_heightOf_6 rfl rfl ?_
  refine J_iconst 0 dX9_heightOf_7 (by decide) ?_
  refine J_iadd dX9_heightOf_8 ?_
  refine J_iload_n 2 2 a2 dX9_heightOf_9 rfl rfl ?_
  refine J_iadd dX9_heightOf_10 ?_
  refine J_iald 114 512 dX9_heightOf_11 rfl (Nat.lt_of_lt_of_le (Nat.le_of_ble_eq_true rfl) hn) (fun x1 => ?_)
  refine J_imul dX9_heightOf_12 ?_
  refine J_aload_n 0 0 113 dX9_heightOf_13 rfl rfl ?_
  refine J_getR 113 9 3 116 dX9_heightOf_14 fl_9_17 rfl rfl (Nat.lt_of_lt_of_le (Nat.le_of_ble_eq_true rfl) hn) rfl ?_
  refine J_iconst 4 dX9_heightOf_17 (by decide) ?_
  refine J_iload_n 2 2 a2 dX9_heightOf_18 rfl rfl ?_
  refine J_imul dX9_heightOf_19 ?_
  refine J_iald 116 32 dX9_heightOf_20 rfl (Nat.lt_of_lt_of_le (Nat.le_of_ble_eq_true rfl) hn) (fun x2 => ?_)
  refine J_idiv dX9_heightOf_21 (fun x3 => ?_)
  exact J_iretP dX9_heightOf_22 rfl rfl
def f_X9_room (m : Mm) (a1 : Int32) (a2 : Int32) : Option (Int32) :=
  (ald m 116 32 ((4 : Int32) * a2)).bind fun x1 => (ald m 114 512 ((a1 + (0 : Int32)) + a2)).bind fun x2 => some (x1 - x2)
set_option maxHeartbeats 4000000 in
set_option maxRecDepth 100000 in
theorem ct_X9_room (F : Nat) {n : Nat} (hn : 135 ≤ n) (P D : Nat) (T : Option Nat) (m : Mm) (a1 : Int32) (a2 : Int32) : Ct yX9_room cX9_room 3 (some .int) 0 0 [.ref 113, .int a1, .int a2] n n m (RF P D T) (rP m (RF P D T) (f_X9_room m a1 a2)) := by
  refine Ct.ofP (own := RX9) (nm := "room") [(0, .ref 113), (1, .int a1), (2, .int a2)] (by decide) (Nat.le_of_ble_eq_true rfl) rfl rfl rfl ?_
  unfold f_X9_room
  refine J_aload_n 0 0 113 dX9_room_0 rfl rfl ?_
  refine J_getR 113 9 3 116 dX9_room_1 fl_9_17 rfl rfl (Nat.lt_of_lt_of_le (Nat.le_of_ble_eq_true rfl) hn) rfl ?_
  refine J_iconst 4 dX9_room_4 (by decide) ?_
  refine J_iload_n 2 2 a2 dX9_room_5 rfl rfl ?_
  refine J_imul dX9_room_6 ?_
  refine J_iald 116 32 dX9_room_7 rfl (Nat.lt_of_lt_of_le (Nat.le_of_ble_eq_true rfl) hn) (fun x1 => ?_)
  refine J_aload_n 0 0 113 dX9_room_8 rfl rfl ?_
  refine J_getR 113 9 0 114 dX9_room_9 fl_9_7 rfl rfl (Nat.lt_of_lt_of_le (Nat.le_of_ble_eq_true rfl) hn) rfl ?_
  refine J_iload_n 1 1 a1 dX9_room_12 rfl rfl ?_
  refine J_iconst 0 dX9_room_13 (by decide) ?_
  refine J_iadd dX9_room_14 ?_
  refine J_iload_n 2 2 a2 dX9_room_15 rfl rfl ?_
  refine J_iadd dX9_room_16 ?_
  refine J_iald 114 512 dX9_room_17 rfl (Nat.lt_of_lt_of_le (Nat.le_of_ble_eq_true rfl) hn) (fun x2 => ?_)
  refine J_isub dX9_room_18 ?_
  exact J_iretP dX9_room_19 rfl rfl
def f_X9_aTon (m : Mm) (a1 : Int32) (a2 : Int32) : Option (Mm) :=
  (ald m 117 60 ((6 : Int32) * a2)).bind fun x1 => (ald m 117 60 (((6 : Int32) * a2) + (1 : Int32))).bind fun x2 => (f_X9_heightOf m a1 x1).bind fun x3 => (f_X9_heightOf m a1 x2).bind fun x5 => (if x3 ≤ x5 then (some 0) else (some 1) : Option (Int32)).bind fun y7 => (if y7 = 0 then (some x2) else (some x1) : Option (Int32)).bind fun y8 => (if y7 = 0 then (some x1) else (some x2) : Option (Int32)).bind fun y9 => (f_X9_heightOf m a1 y8).bind fun x10 => (f_X9_heightOf m a1 y9).bind fun x12 => (if x10 ≤ x12 then (some 0) else ((f_X9_heightOf m a1 y8).bind fun x15 => (ald m 117 60 (((6 : Int32) * a2) + (2 : Int32))).bind fun x17 => if x15 ≤ x17 then (some 0) else ((f_X9_room m a1 y9).bind fun x18 => if x18 ≤ 0 then (some 0) else (some 1))) : Option (Int32)).bind fun y14 => (ald m 114 512 ((a1 + (0 : Int32)) + y8)).bind fun x20 => (f_X9_flag y14).bind fun x21 => (ast m 114 512 ((a1 + (0 : Int32)) + y8) (x20 - x21)).bind fun m23 => (ald m23 114 512 ((a1 + (0 : Int32)) + y9)).bind fun x24 => (f_X9_flag y14).bind fun x25 => (ast m23 114 512 ((a1 + (0 : Int32)) + y9) (x24 + x25)).bind fun m27 => some m27
set_option maxHeartbeats 4000000 in
set_option maxRecDepth 100000 in
theorem ct_X9_aTon (F : Nat) {n : Nat} (hn : 135 ≤ n) (P D : Nat) (T : Option Nat) (m : Mm) (a1 : Int32) (a2 : Int32) : Ct yX9_aTon cX9_aTon 9 none 1 22 [.ref 113, .int a1, .int a2] n n m (RF P D T) (rV (RF P D T) (f_X9_aTon m a1 a2)) := by
  refine Ct.ofV (own := RX9) (nm := "aTon") [(0, .ref 113), (1, .int a1), (2, .int a2)] (by decide) (Nat.le_of_ble_eq_true rfl) rfl rfl rfl ?_
  unfold f_X9_aTon
  refine J_aload_n 0 0 113 dX9_aTon_0 rfl rfl ?_
  refine J_getR 113 9 5 117 dX9_aTon_1 fl_9_20 rfl rfl (Nat.lt_of_lt_of_le (Nat.le_of_ble_eq_true rfl) hn) rfl ?_
  refine J_bipush 6 dX9_aTon_4 (by decide) ?_
  refine J_iload_n 2 2 a2 dX9_aTon_6 rfl rfl ?_
  refine J_imul dX9_aTon_7 ?_
  refine J_iald 117 60 dX9_aTon_8 rfl (Nat.lt_of_lt_of_le (Nat.le_of_ble_eq_true rfl) hn) (fun x1 => ?_)
  refine J_istore_n 3 [(3, .int x1), (0, .ref 113), (1, .int a1), (2, .int a2)] dX9_aTon_9 rfl (by decide) rfl ?_
  refine J_aload_n 0 1 113 dX9_aTon_10 rfl rfl ?_
  refine J_getR 113 9 5 117 dX9_aTon_11 fl_9_20 rfl rfl (Nat.lt_of_lt_of_le (Nat.le_of_ble_eq_true rfl) hn) rfl ?_
  refine J_bipush 6 dX9_aTon_14 (by decide) ?_
  refine J_iload_n 2 3 a2 dX9_aTon_16 rfl rfl ?_
  refine J_imul dX9_aTon_17 ?_
  refine J_iconst 1 dX9_aTon_18 (by decide) ?_
  refine J_iadd dX9_aTon_19 ?_
  refine J_iald 117 60 dX9_aTon_20 rfl (Nat.lt_of_lt_of_le (Nat.le_of_ble_eq_true rfl) hn) (fun x2 => ?_)
  refine J_istore 4 [(4, .int x2), (3, .int x1), (0, .ref 113), (1, .int a1), (2, .int a2)] dX9_aTon_21 (by decide) rfl ?_
  refine J_aload_n 0 2 113 dX9_aTon_23 rfl rfl ?_
  refine J_iload_n 1 3 a1 dX9_aTon_24 rfl rfl ?_
  refine J_iload_n 3 1 x1 dX9_aTon_25 rfl rfl ?_
  refine J_callVP 113 9 2 [.int a1, .int x1] dX9_aTon_26 mv_X9_heightOf mv_X9_heightOfv lk_9_214 (ct_X9_heightOf F hn P D T m a1 x1) rfl rfl (by decide) rfl (Nat.lt_of_lt_of_le (Nat.le_of_ble_eq_true rfl) hn) ⟨by decide, by decide⟩ (Nat.le_of_ble_eq_true rfl) (fun x3 => ?_)
  refine J_aload_n 0 2 113 dX9_aTon_29 rfl rfl ?_
  refine J_iload_n 1 3 a1 dX9_aTon_30 rfl rfl ?_
  refine J_iload 4 0 x2 dX9_aTon_31 rfl ?_
  refine J_callVP 113 9 2 [.int a1, .int x2] dX9_aTon_33 mv_X9_heightOf mv_X9_heightOfv lk_9_214 (ct_X9_heightOf F hn P D T m a1 x2) rfl rfl (by decide) rfl (Nat.lt_of_lt_of_le (Nat.le_of_ble_eq_true rfl) hn) ⟨by decide, by decide⟩ (Nat.le_of_ble_eq_true rfl) (fun x5 => ?_)
  refine J_seqJ 44 (fun y7 : Int32 => [(0, .ref 113), (1, .int a1), (2, .int a2), (3, .int x1), (4, .int x2)]) (fun y7 => [.int y7]) (fun y7 => m) (fun y7 => ?_) (fun k1 hEy7 => ?_)
  · refine J_istore 5 [(5, .int y7), (0, .ref 113), (1, .int a1), (2, .int a2), (3, .int x1), (4, .int x2)] dX9_aTon_44 (by decide) rfl ?_
    refine J_iload 5 0 y7 dX9_aTon_46 rfl ?_
    refine J_seqJ 57 (fun y8 : Int32 => [(0, .ref 113), (1, .int a1), (2, .int a2), (3, .int x1), (4, .int x2), (5, .int y7)]) (fun y8 => [.int y8]) (fun y8 => m) (fun y8 => ?_) (fun k1 hEy8 => ?_)
    · refine J_istore 6 [(6, .int y8), (0, .ref 113), (1, .int a1), (2, .int a2), (3, .int x1), (4, .int x2), (5, .int y7)] dX9_aTon_57 (by decide) rfl ?_
      refine J_iload 5 6 y7 dX9_aTon_59 rfl ?_
      refine J_seqJ 70 (fun y9 : Int32 => [(0, .ref 113), (1, .int a1), (2, .int a2), (6, .int y8)]) (fun y9 => [.int y9]) (fun y9 => m) (fun y9 => ?_) (fun k1 hEy9 => ?_)
      · refine J_istore 7 [(7, .int y9), (0, .ref 113), (1, .int a1), (2, .int a2), (6, .int y8)] dX9_aTon_70 (by decide) rfl ?_
        refine J_aload_n 0 1 113 dX9_aTon_72 rfl rfl ?_
        refine J_iload_n 1 2 a1 dX9_aTon_73 rfl rfl ?_
        refine J_iload 6 4 y8 dX9_aTon_74 rfl ?_
        refine J_callVP 113 9 2 [.int a1, .int y8] dX9_aTon_76 mv_X9_heightOf mv_X9_heightOfv lk_9_214 (ct_X9_heightOf F hn P D T m a1 y8) rfl rfl (by decide) rfl (Nat.lt_of_lt_of_le (Nat.le_of_ble_eq_true rfl) hn) ⟨by decide, by decide⟩ (Nat.le_of_ble_eq_true rfl) (fun x10 => ?_)
        refine J_aload_n 0 1 113 dX9_aTon_79 rfl rfl ?_
        refine J_iload_n 1 2 a1 dX9_aTon_80 rfl rfl ?_
        refine J_iload 7 0 y9 dX9_aTon_81 rfl ?_
        refine J_callVP 113 9 2 [.int a1, .int y9] dX9_aTon_83 mv_X9_heightOf mv_X9_heightOfv lk_9_214 (ct_X9_heightOf F hn P D T m a1 y9) rfl rfl (by decide) rfl (Nat.lt_of_lt_of_le (Nat.le_of_ble_eq_true rfl) hn) ⟨by decide, by decide⟩ (Nat.le_of_ble_eq_true rfl) (fun x12 => ?_)
        refine J_seqJ 125 (fun y14 : Int32 => [(0, .ref 113), (1, .int a1), (6, .int y8), (7, .int y9)]) (fun y14 => [.int y14]) (fun y14 => m) (fun y14 => ?_) (fun k1 hEy14 => ?_)
        · refine J_istore 8 [(8, .int y14), (0, .ref 113), (1, .int a1), (6, .int y8), (7, .int y9)] dX9_aTon_125 (by decide) rfl ?_
          refine J_aload_n 0 1 113 dX9_aTon_127 rfl rfl ?_
          refine J_getR 113 9 0 114 dX9_aTon_128 fl_9_7 rfl rfl (Nat.lt_of_lt_of_le (Nat.le_of_ble_eq_true rfl) hn) rfl ?_
          refine J_iload_n 1 2 a1 dX9_aTon_131 rfl rfl ?_
          refine J_iconst 0 dX9_aTon_132 (by decide) ?_
          refine J_iadd dX9_aTon_133 ?_
          refine J_iload 6 3 y8 dX9_aTon_134 rfl ?_
          refine J_iadd dX9_aTon_136 ?_
          refine J_dup2 dX9_aTon_137 rfl rfl ?_
          refine J_iald 114 512 dX9_aTon_138 rfl (Nat.lt_of_lt_of_le (Nat.le_of_ble_eq_true rfl) hn) (fun x20 => ?_)
          refine J_iload 8 0 y14 dX9_aTon_139 rfl ?_
          refine J_callSP 1 [.int y14] dX9_aTon_141 mv_X9_flag mv_X9_flags lk_9_174 (ct_X9_flag F hn P D T m y14) rfl ⟨by decide, by decide⟩ (Nat.le_of_ble_eq_true rfl) (fun x21 => ?_)
          refine J_isub dX9_aTon_144 ?_
          refine J_iast 114 512 dX9_aTon_145 rfl (Nat.lt_of_lt_of_le (Nat.le_of_ble_eq_true rfl) hn) (fun m23 => ?_)
          refine J_aload_n 0 1 113 dX9_aTon_146 rfl rfl ?_
          refine J_getR 113 9 0 114 dX9_aTon_147 fl_9_7 rfl rfl (Nat.lt_of_lt_of_le (Nat.le_of_ble_eq_true rfl) hn) rfl ?_
          refine J_iload_n 1 2 a1 dX9_aTon_150 rfl rfl ?_
          refine J_iconst 0 dX9_aTon_151 (by decide) ?_
          refine J_iadd dX9_aTon_152 ?_
          refine J_iload 7 4 y9 dX9_aTon_153 rfl ?_
          refine J_iadd dX9_aTon_155 ?_
          refine J_dup2 dX9_aTon_156 rfl rfl ?_
          refine J_iald 114 512 dX9_aTon_157 rfl (Nat.lt_of_lt_of_le (Nat.le_of_ble_eq_true rfl) hn) (fun x24 => ?_)
          refine J_iload 8 0 y14 dX9_aTon_158 rfl ?_
          refine J_callSP 1 [.int y14] dX9_aTon_160 mv_X9_flag mv_X9_flags lk_9_174 (ct_X9_flag F hn P D T m23 y14) rfl ⟨by decide, by decide⟩ (Nat.le_of_ble_eq_true rfl) (fun x25 => ?_)
          refine J_iadd dX9_aTon_163 ?_
          refine J_iast 114 512 dX9_aTon_164 rfl (Nat.lt_of_lt_of_le (Nat.le_of_ble_eq_true rfl) hn) (fun m27 => ?_)
          exact J_vretV dX9_aTon_165 rfl rfl
        · refine J_icmp_le 124 dX9_aTon_86 (by decide) ?_ ?_
          · refine J_iconst 0 dX9_aTon_124 (by decide) ?_
            exact J_lv [1, 2, 4, 0] rfl (hEy14 0)
          · refine J_aload_n 0 1 113 dX9_aTon_89 rfl rfl ?_
            refine J_iload_n 1 2 a1 dX9_aTon_90 rfl rfl ?_
            refine J_iload 6 4 y8 dX9_aTon_91 rfl ?_
            refine J_callVP 113 9 2 [.int a1, .int y8] dX9_aTon_93 mv_X9_heightOf mv_X9_heightOfv lk_9_214 (ct_X9_heightOf F hn P D T m a1 y8) rfl rfl (by decide) rfl (Nat.lt_of_lt_of_le (Nat.le_of_ble_eq_true rfl) hn) ⟨by decide, by decide⟩ (Nat.le_of_ble_eq_true rfl) (fun x15 => ?_)
            refine J_aload_n 0 1 113 dX9_aTon_96 rfl rfl ?_
            refine J_getR 113 9 5 117 dX9_aTon_97 fl_9_20 rfl rfl (Nat.lt_of_lt_of_le (Nat.le_of_ble_eq_true rfl) hn) rfl ?_
            refine J_bipush 6 dX9_aTon_100 (by decide) ?_
            refine J_iload_n 2 3 a2 dX9_aTon_102 rfl rfl ?_
            refine J_imul dX9_aTon_103 ?_
            refine J_iconst 2 dX9_aTon_104 (by decide) ?_
            refine J_iadd dX9_aTon_105 ?_
            refine J_iald 117 60 dX9_aTon_106 rfl (Nat.lt_of_lt_of_le (Nat.le_of_ble_eq_true rfl) hn) (fun x17 => ?_)
            refine J_icmp_le 124 dX9_aTon_107 (by decide) ?_ ?_
            · refine J_iconst 0 dX9_aTon_124 (by decide) ?_
              exact J_lv [1, 2, 4, 0] rfl (hEy14 0)
            · refine J_aload_n 0 1 113 dX9_aTon_110 rfl rfl ?_
              refine J_iload_n 1 2 a1 dX9_aTon_111 rfl rfl ?_
              refine J_iload 7 0 y9 dX9_aTon_112 rfl ?_
              refine J_callVP 113 9 2 [.int a1, .int y9] dX9_aTon_114 mv_X9_room mv_X9_roomv lk_9_217 (ct_X9_room F hn P D T m a1 y9) rfl rfl (by decide) rfl (Nat.lt_of_lt_of_le (Nat.le_of_ble_eq_true rfl) hn) ⟨by decide, by decide⟩ (Nat.le_of_ble_eq_true rfl) (fun x18 => ?_)
              refine J_if_le 124 dX9_aTon_117 (by decide) ?_ ?_
              · refine J_iconst 0 dX9_aTon_124 (by decide) ?_
                exact J_lv [1, 2, 4, 0] rfl (hEy14 0)
              · refine J_iconst 1 dX9_aTon_120 (by decide) ?_
                refine J_goto 125 dX9_aTon_121 (by decide) ?_
                exact J_lv [1, 2, 4, 0] rfl (hEy14 1)
      · refine J_if_eq 69 dX9_aTon_61 (by decide) ?_ ?_
        · refine J_iload_n 3 4 x1 dX9_aTon_69 rfl rfl ?_
          exact J_lv [1, 2, 3, 0] rfl (hEy9 x1)
        · refine J_iload 4 5 x2 dX9_aTon_64 rfl ?_
          refine J_goto 70 dX9_aTon_66 (by decide) ?_
          exact J_lv [1, 2, 3, 0] rfl (hEy9 x2)
    · refine J_if_eq 55 dX9_aTon_48 (by decide) ?_ ?_
      · refine J_iload 4 5 x2 dX9_aTon_55 rfl ?_
        exact J_lv [1, 2, 3, 4, 5, 0] rfl (hEy8 x2)
      · refine J_iload_n 3 4 x1 dX9_aTon_51 rfl rfl ?_
        refine J_goto 57 dX9_aTon_52 (by decide) ?_
        exact J_lv [1, 2, 3, 4, 5, 0] rfl (hEy8 x1)
  · refine J_icmp_le 43 dX9_aTon_36 (by decide) ?_ ?_
    · refine J_iconst 0 dX9_aTon_43 (by decide) ?_
      exact J_lv [2, 3, 4, 1, 0] rfl (hEy7 0)
    · refine J_iconst 1 dX9_aTon_39 (by decide) ?_
      refine J_goto 44 dX9_aTon_40 (by decide) ?_
      exact J_lv [2, 3, 4, 1, 0] rfl (hEy7 1)
def f_X9_comesIn (m : Mm) (a1 : Int32) (a2 : Int32) : Option (Int32) :=
  (ald m 118 12 ((3 : Int32) * a2)).bind fun x1 => (ald m 114 512 ((a1 + (36 : Int32)) + a2)).bind fun x2 => (if x2 = (1 : Int32) then ((ald m 118 12 (((3 : Int32) * a2) + (1 : Int32))).bind fun x5 => (odiv (x5 + (1 : Int32)) (2 : Int32)).bind fun x6 => some x6) else ((ald m 118 12 (((3 : Int32) * a2) + (1 : Int32))).bind fun x4 => some x4) : Option (Int32)).bind fun y3 => (f_X9_heightOf m a1 x1).bind fun x7 => (odiv ((y3 * ((12 : Int32) - x7)) + (11 : Int32)) (12 : Int32)).bind fun x9 => (f_X9_room m a1 x1).bind fun x10 => if x10 ≤ x9 then ((f_X9_room m a1 x1).bind fun x12 => some x12) else (some x9)
set_option maxHeartbeats 4000000 in
set_option maxRecDepth 100000 in
theorem ct_X9_comesIn (F : Nat) {n : Nat} (hn : 135 ≤ n) (P D : Nat) (T : Option Nat) (m : Mm) (a1 : Int32) (a2 : Int32) : Ct yX9_comesIn cX9_comesIn 6 (some .int) 1 22 [.ref 113, .int a1, .int a2] n n m (RF P D T) (rP m (RF P D T) (f_X9_comesIn m a1 a2)) := by
  refine Ct.ofP (own := RX9) (nm := "comesIn") [(0, .ref 113), (1, .int a1), (2, .int a2)] (by decide) (Nat.le_of_ble_eq_true rfl) rfl rfl rfl ?_
  unfold f_X9_comesIn
  refine J_aload_n 0 0 113 dX9_comesIn_0 rfl rfl ?_
  refine J_getR 113 9 7 118 dX9_comesIn_1 fl_9_23 rfl rfl (Nat.lt_of_lt_of_le (Nat.le_of_ble_eq_true rfl) hn) rfl ?_
  refine J_iconst 3 dX9_comesIn_4 (by decide) ?_
  refine J_iload_n 2 2 a2 dX9_comesIn_5 rfl rfl ?_
  refine J_imul dX9_comesIn_6 ?_
  refine J_iald 118 12 dX9_comesIn_7 rfl (Nat.lt_of_lt_of_le (Nat.le_of_ble_eq_true rfl) hn) (fun x1 => ?_)
  refine J_istore_n 3 [(3, .int x1), (0, .ref 113), (1, .int a1), (2, .int a2)] dX9_comesIn_8 rfl (by decide) rfl ?_
  refine J_aload_n 0 1 113 dX9_comesIn_9 rfl rfl ?_
  refine J_getR 113 9 0 114 dX9_comesIn_10 fl_9_7 rfl rfl (Nat.lt_of_lt_of_le (Nat.le_of_ble_eq_true rfl) hn) rfl ?_
  refine J_iload_n 1 2 a1 dX9_comesIn_13 rfl rfl ?_
  refine J_bipush 36 dX9_comesIn_14 (by decide) ?_
  refine J_iadd dX9_comesIn_16 ?_
  refine J_iload_n 2 3 a2 dX9_comesIn_17 rfl rfl ?_
  refine J_iadd dX9_comesIn_18 ?_
  refine J_iald 114 512 dX9_comesIn_19 rfl (Nat.lt_of_lt_of_le (Nat.le_of_ble_eq_true rfl) hn) (fun x2 => ?_)
  refine J_iconst 1 dX9_comesIn_20 (by decide) ?_
  refine J_seqJ 51 (fun y3 : Int32 => [(0, .ref 113), (1, .int a1), (3, .int x1)]) (fun y3 => [.int y3]) (fun y3 => m) (fun y3 => ?_) (fun k1 hEy3 => ?_)
  · refine J_istore 4 [(4, .int y3), (0, .ref 113), (1, .int a1), (3, .int x1)] dX9_comesIn_51 (by decide) rfl ?_
    refine J_iload 4 0 y3 dX9_comesIn_53 rfl ?_
    refine J_bipush 12 dX9_comesIn_55 (by decide) ?_
    refine J_aload_n 0 1 113 dX9_comesIn_57 rfl rfl ?_
    refine J_iload_n 1 2 a1 dX9_comesIn_58 rfl rfl ?_
    refine J_iload_n 3 3 x1 dX9_comesIn_59 rfl rfl ?_
    refine J_callVP 113 9 2 [.int a1, .int x1] dX9_comesIn_60 mv_X9_heightOf mv_X9_heightOfv lk_9_214 (ct_X9_heightOf F hn P D T m a1 x1) rfl rfl (by decide) rfl (Nat.lt_of_lt_of_le (Nat.le_of_ble_eq_true rfl) hn) ⟨by decide, by decide⟩ (Nat.le_of_ble_eq_true rfl) (fun x7 => ?_)
    refine J_isub dX9_comesIn_63 ?_
    refine J_imul dX9_comesIn_64 ?_
    refine J_bipush 11 dX9_comesIn_65 (by decide) ?_
    refine J_iadd dX9_comesIn_67 ?_
    refine J_bipush 12 dX9_comesIn_68 (by decide) ?_
    refine J_idiv dX9_comesIn_70 (fun x9 => ?_)
    refine J_istore 5 [(5, .int x9), (4, .int y3), (0, .ref 113), (1, .int a1), (3, .int x1)] dX9_comesIn_71 (by decide) rfl ?_
    refine J_iload 5 0 x9 dX9_comesIn_73 rfl ?_
    refine J_aload_n 0 2 113 dX9_comesIn_75 rfl rfl ?_
    refine J_iload_n 1 3 a1 dX9_comesIn_76 rfl rfl ?_
    refine J_iload_n 3 4 x1 dX9_comesIn_77 rfl rfl ?_
    refine J_callVP 113 9 2 [.int a1, .int x1] dX9_comesIn_78 mv_X9_room mv_X9_roomv lk_9_217 (ct_X9_room F hn P D T m a1 x1) rfl rfl (by decide) rfl (Nat.lt_of_lt_of_le (Nat.le_of_ble_eq_true rfl) hn) ⟨by decide, by decide⟩ (Nat.le_of_ble_eq_true rfl) (fun x10 => ?_)
    refine J_icmp_ge 89 dX9_comesIn_81 (by decide) ?_ ?_
    · refine J_aload_n 0 2 113 dX9_comesIn_89 rfl rfl ?_
      refine J_iload_n 1 3 a1 dX9_comesIn_90 rfl rfl ?_
      refine J_iload_n 3 4 x1 dX9_comesIn_91 rfl rfl ?_
      refine J_callVP 113 9 2 [.int a1, .int x1] dX9_comesIn_92 mv_X9_room mv_X9_roomv lk_9_217 (ct_X9_room F hn P D T m a1 x1) rfl rfl (by decide) rfl (Nat.lt_of_lt_of_le (Nat.le_of_ble_eq_true rfl) hn) ⟨by decide, by decide⟩ (Nat.le_of_ble_eq_true rfl) (fun x12 => ?_)
      exact J_iretP dX9_comesIn_95 rfl rfl
    · refine J_iload 5 0 x9 dX9_comesIn_84 rfl ?_
      refine J_goto 95 dX9_comesIn_86 (by decide) ?_
      exact J_iretP dX9_comesIn_95 rfl rfl
  · refine J_icmp_ne 41 dX9_comesIn_21 (by decide) ?_ ?_
    · refine J_aload_n 0 1 113 dX9_comesIn_41 rfl rfl ?_
      refine J_getR 113 9 7 118 dX9_comesIn_42 fl_9_23 rfl rfl (Nat.lt_of_lt_of_le (Nat.le_of_ble_eq_true rfl) hn) rfl ?_
      refine J_iconst 3 dX9_comesIn_45 (by decide) ?_
      refine J_iload_n 2 3 a2 dX9_comesIn_46 rfl rfl ?_
      refine J_imul dX9_comesIn_47 ?_
      refine J_iconst 1 dX9_comesIn_48 (by decide) ?_
      refine J_iadd dX9_comesIn_49 ?_
      refine J_iald 118 12 dX9_comesIn_50 rfl (Nat.lt_of_lt_of_le (Nat.le_of_ble_eq_true rfl) hn) (fun x4 => ?_)
      exact J_lv [1, 2, 0] rfl (hEy3 x4)
    · refine J_aload_n 0 1 113 dX9_comesIn_24 rfl rfl ?_
      refine J_getR 113 9 7 118 dX9_comesIn_25 fl_9_23 rfl rfl (Nat.lt_of_lt_of_le (Nat.le_of_ble_eq_true rfl) hn) rfl ?_
      refine J_iconst 3 dX9_comesIn_28 (by decide) ?_
      refine J_iload_n 2 3 a2 dX9_comesIn_29 rfl rfl ?_
      refine J_imul dX9_comesIn_30 ?_
      refine J_iconst 1 dX9_comesIn_31 (by decide) ?_
      refine J_iadd dX9_comesIn_32 ?_
      refine J_iald 118 12 dX9_comesIn_33 rfl (Nat.lt_of_lt_of_le (Nat.le_of_ble_eq_true rfl) hn) (fun x5 => ?_)
      refine J_iconst 1 dX9_comesIn_34 (by decide) ?_
      refine J_iadd dX9_comesIn_35 ?_
      refine J_iconst 2 dX9_comesIn_36 (by decide) ?_
      refine J_idiv dX9_comesIn_37 (fun x6 => ?_)
      refine J_goto 51 dX9_comesIn_38 (by decide) ?_
      exact J_lv [1, 2, 0] rfl (hEy3 x6)

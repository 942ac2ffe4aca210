theorem fl_9_44 : FL RX9 44 9 19 := ⟨by decide, by decide, tb 1041 (by decide +kernel) rfl⟩
theorem fl_9_47 : FL RX9 47 9 20 := ⟨by decide, by decide, tb 1042 (by decide +kernel) rfl⟩
theorem kl_9_112 : Cond.constantLong RX9 112 255 ∈ TBg := tb 1153 (by decide +kernel) rfl
theorem kl_9_229 : Cond.constantLong RX9 229 6 ∈ TBg := tb 1252 (by decide +kernel) rfl
theorem lk_9_226 : Cond.methodLink RX9 226 yX9_isDoor ∈ TBg := tb 1248 (by decide +kernel) rfl
theorem lk_9_331 : Cond.methodLink RX9 331 yX9_countOf ∈ TBg := tb 1441 (by decide +kernel) rfl
theorem lk_9_339 : Cond.methodLink RX9 339 yX9_openDoors ∈ TBg := tb 1457 (by decide +kernel) rfl
theorem lk_9_342 : Cond.methodLink RX9 342 yX9_reach ∈ TBg := tb 1461 (by decide +kernel) rfl
theorem lk_9_345 : Cond.methodLink RX9 345 yX9_holed ∈ TBg := tb 1469 (by decide +kernel) rfl
theorem mv_X9_countOf : MV yX9_countOf cX9_countOf 3 (some .int) 1 := ⟨tb 1443 (by decide +kernel) rfl, tb 13 (by decide +kernel) rfl, by decide +kernel⟩
theorem mv_X9_countOfs : Cond.static yX9_countOf ∈ TBg := tb 1442 (by decide +kernel) rfl
theorem mv_X9_holed : MV yX9_holed cX9_holed 3 (some .int) 0 := ⟨tb 1472 (by decide +kernel) rfl, tb 13 (by decide +kernel) rfl, by decide +kernel⟩
theorem mv_X9_holedv : Cond.instanceMethod yX9_holed ∈ TBg ∧ Cond.selects yX9_holed.cls yX9_holed yX9_holed ∈ TBg := ⟨tb 1471 (by decide +kernel) rfl, tbP (k := 42) 94 (by decide +kernel) rfl⟩
theorem mv_X9_isDoor : MV yX9_isDoor cX9_isDoor 2 (some .boolean) 1 := ⟨tb 1251 (by decide +kernel) rfl, tb 13 (by decide +kernel) rfl, by decide +kernel⟩
theorem mv_X9_isDoorv : Cond.instanceMethod yX9_isDoor ∈ TBg ∧ Cond.selects yX9_isDoor.cls yX9_isDoor yX9_isDoor ∈ TBg := ⟨tb 1250 (by decide +kernel) rfl, tbP (k := 42) 65 (by decide +kernel) rfl⟩
theorem mv_X9_openDoors : MV yX9_openDoors cX9_openDoors 3 (some .int) 0 := ⟨tb 1460 (by decide +kernel) rfl, tb 13 (by decide +kernel) rfl, by decide +kernel⟩
theorem mv_X9_openDoorsv : Cond.instanceMethod yX9_openDoors ∈ TBg ∧ Cond.selects yX9_openDoors.cls yX9_openDoors yX9_openDoors ∈ TBg := ⟨tb 1459 (by decide +kernel) rfl, tbP (k := 42) 92 (by decide +kernel) rfl⟩
theorem mv_X9_reach : MV yX9_reach cX9_reach 7 (some .int) 2 := ⟨tb 1464 (by decide +kernel) rfl, tb 13 (by decide +kernel) rfl, by decide +kernel⟩
theorem mv_X9_reachv : Cond.instanceMethod yX9_reach ∈ TBg ∧ Cond.selects yX9_reach.cls yX9_reach yX9_reach ∈ TBg := ⟨tb 1463 (by decide +kernel) rfl, tbP (k := 42) 93 (by decide +kernel) rfl⟩
theorem dX9_countOf_0 : decode cX9_countOf 0 = .ok (.iconst 0, 1) := by decide +kernel
theorem dX9_countOf_1 : decode cX9_countOf 1 = .ok (.istore_n 1, 1) := by decide +kernel
theorem dX9_countOf_2 : decode cX9_countOf 2 = .ok (.iconst 0, 1) := by decide +kernel
theorem dX9_countOf_3 : decode cX9_countOf 3 = .ok (.istore_n 2, 1) := by decide +kernel
theorem dX9_countOf_4 : decode cX9_countOf 4 = .ok (.iload_n 2, 1) := by decide +kernel
theorem dX9_countOf_5 : decode cX9_countOf 5 = .ok (.bipush 10, 2) := by decide +kernel
theorem dX9_countOf_7 : decode cX9_countOf 7 = .ok (.if_icmp .ge 17, 3) := by decide +kernel
theorem dX9_countOf_10 : decode cX9_countOf 10 = .ok (.iload_n 1, 1) := by decide +kernel
theorem dX9_countOf_11 : decode cX9_countOf 11 = .ok (.iload_n 0, 1) := by decide +kernel
theorem dX9_countOf_12 : decode cX9_countOf 12 = .ok (.iload_n 2, 1) := by decide +kernel
theorem dX9_countOf_13 : decode cX9_countOf 13 = .ok (.ishr, 1) := by decide +kernel
theorem dX9_countOf_14 : decode cX9_countOf 14 = .ok (.iconst 1, 1) := by decide +kernel
theorem dX9_countOf_15 : decode cX9_countOf 15 = .ok (.iand, 1) := by decide +kernel
theorem dX9_countOf_16 : decode cX9_countOf 16 = .ok (.iadd, 1) := by decide +kernel
theorem dX9_countOf_17 : decode cX9_countOf 17 = .ok (.istore_n 1, 1) := by decide +kernel
theorem dX9_countOf_18 : decode cX9_countOf 18 = .ok (.iinc 2 1, 3) := by decide +kernel
theorem dX9_countOf_21 : decode cX9_countOf 21 = .ok (.goto (-17), 3) := by decide +kernel
theorem dX9_countOf_24 : decode cX9_countOf 24 = .ok (.iload_n 1, 1) := by decide +kernel
theorem dX9_countOf_25 : decode cX9_countOf 25 = .ok (.ireturn, 1) := by decide +kernel
theorem dX9_isDoor_0 : decode cX9_isDoor 0 = .ok (.iload_n 1, 1) := by decide +kernel
theorem dX9_isDoor_1 : decode cX9_isDoor 1 = .ok (.i2l, 1) := by decide +kernel
theorem dX9_isDoor_2 : decode cX9_isDoor 2 = .ok (.lconst 0, 1) := by decide +kernel
theorem dX9_isDoor_3 : decode cX9_isDoor 3 = .ok (.aload_n 0, 1) := by decide +kernel
theorem dX9_isDoor_4 : decode cX9_isDoor 4 = .ok (.getfield 96, 3) := by decide +kernel
theorem dX9_isDoor_7 : decode cX9_isDoor 7 = .ok (.iconst 1, 1) := by decide +kernel
theorem dX9_isDoor_8 : decode cX9_isDoor 8 = .ok (.isub, 1) := by decide +kernel
theorem dX9_isDoor_9 : decode cX9_isDoor 9 = .ok (.i2l, 1) := by decide +kernel
theorem dX9_isDoor_10 : decode cX9_isDoor 10 = .ok (.invokestatic 114, 3) := by decide +kernel
theorem dX9_isDoor_13 : decode cX9_isDoor 13 = .ok (.ireturn, 1) := by decide +kernel
theorem dX9_door_0 : decode cX9_door 0 = .ok (.aload_n 0, 1) := by decide +kernel
theorem dX9_door_1 : decode cX9_door 1 = .ok (.iload_n 1, 1) := by decide +kernel
theorem dX9_door_2 : decode cX9_door 2 = .ok (.invokevirtual 226, 3) := by decide +kernel
theorem dX9_door_5 : decode cX9_door 5 = .ok (.ifCond .eq 15, 3) := by decide +kernel
theorem dX9_door_8 : decode cX9_door 8 = .ok (.iload_n 2, 1) := by decide +kernel
theorem dX9_door_9 : decode cX9_door 9 = .ok (.i2l, 1) := by decide +kernel
theorem dX9_door_10 : decode cX9_door 10 = .ok (.lconst 0, 1) := by decide +kernel
theorem dX9_door_11 : decode cX9_door 11 = .ok (.ldc2_w 229, 3) := by decide +kernel
theorem dX9_door_14 : decode cX9_door 14 = .ok (.invokestatic 114, 3) := by decide +kernel
theorem dX9_door_17 : decode cX9_door 17 = .ok (.ifCond .ne 5, 3) := by decide +kernel
theorem dX9_door_20 : decode cX9_door 20 = .ok (.iconst (-1), 1) := by decide +kernel
theorem dX9_door_21 : decode cX9_door 21 = .ok (.ireturn, 1) := by decide +kernel
theorem dX9_door_22 : decode cX9_door 22 = .ok (.iload_n 2, 1) := by decide +kernel
theorem dX9_door_23 : decode cX9_door 23 = .ok (.iconst 5, 1) := by decide +kernel
theorem dX9_door_24 : decode cX9_door 24 = .ok (.if_icmp .ge 17, 3) := by decide +kernel
theorem dX9_door_27 : decode cX9_door 27 = .ok (.aload_n 0, 1) := by decide +kernel
theorem dX9_door_28 : decode cX9_door 28 = .ok (.getfield 20, 3) := by decide +kernel
theorem dX9_door_31 : decode cX9_door 31 = .ok (.bipush 6, 2) := by decide +kernel
theorem dX9_door_33 : decode cX9_door 33 = .ok (.iload_n 1, 1) := by decide +kernel
theorem dX9_door_34 : decode cX9_door 34 = .ok (.imul, 1) := by decide +kernel
theorem dX9_door_35 : decode cX9_door 35 = .ok (.iload_n 2, 1) := by decide +kernel
theorem dX9_door_36 : decode cX9_door 36 = .ok (.iadd, 1) := by decide +kernel
theorem dX9_door_37 : decode cX9_door 37 = .ok (.iaload, 1) := by decide +kernel
theorem dX9_door_38 : decode cX9_door 38 = .ok (.goto 29, 3) := by decide +kernel
theorem dX9_door_41 : decode cX9_door 41 = .ok (.iload_n 2, 1) := by decide +kernel
theorem dX9_door_42 : decode cX9_door 42 = .ok (.iconst 5, 1) := by decide +kernel
theorem dX9_door_43 : decode cX9_door 43 = .ok (.if_icmp .ne 15, 3) := by decide +kernel
theorem dX9_door_46 : decode cX9_door 46 = .ok (.aload_n 0, 1) := by decide +kernel
theorem dX9_door_47 : decode cX9_door 47 = .ok (.getfield 7, 3) := by decide +kernel
theorem dX9_door_50 : decode cX9_door 50 = .ok (.bipush 16, 2) := by decide +kernel
theorem dX9_door_52 : decode cX9_door 52 = .ok (.iload_n 1, 1) := by decide +kernel
theorem dX9_door_53 : decode cX9_door 53 = .ok (.iadd, 1) := by decide +kernel
theorem dX9_door_54 : decode cX9_door 54 = .ok (.iaload, 1) := by decide +kernel
theorem dX9_door_55 : decode cX9_door 55 = .ok (.goto 12, 3) := by decide +kernel
theorem dX9_door_58 : decode cX9_door 58 = .ok (.aload_n 0, 1) := by decide +kernel
theorem dX9_door_59 : decode cX9_door 59 = .ok (.getfield 7, 3) := by decide +kernel
theorem dX9_door_62 : decode cX9_door 62 = .ok (.bipush 26, 2) := by decide +kernel
theorem dX9_door_64 : decode cX9_door 64 = .ok (.iload_n 1, 1) := by decide +kernel
theorem dX9_door_65 : decode cX9_door 65 = .ok (.iadd, 1) := by decide +kernel
theorem dX9_door_66 : decode cX9_door 66 = .ok (.iaload, 1) := by decide +kernel
theorem dX9_door_67 : decode cX9_door 67 = .ok (.ireturn, 1) := by decide +kernel
theorem dX9_holed_0 : decode cX9_holed 0 = .ok (.iconst 0, 1) := by decide +kernel
theorem dX9_holed_1 : decode cX9_holed 1 = .ok (.istore_n 1, 1) := by decide +kernel
theorem dX9_holed_2 : decode cX9_holed 2 = .ok (.iconst 0, 1) := by decide +kernel
theorem dX9_holed_3 : decode cX9_holed 3 = .ok (.istore_n 2, 1) := by decide +kernel
theorem dX9_holed_4 : decode cX9_holed 4 = .ok (.iload_n 2, 1) := by decide +kernel
theorem dX9_holed_5 : decode cX9_holed 5 = .ok (.aload_n 0, 1) := by decide +kernel
theorem dX9_holed_6 : decode cX9_holed 6 = .ok (.getfield 99, 3) := by decide +kernel
theorem dX9_holed_9 : decode cX9_holed 9 = .ok (.if_icmp .ge 22, 3) := by decide +kernel
theorem dX9_holed_12 : decode cX9_holed 12 = .ok (.iload_n 1, 1) := by decide +kernel
theorem dX9_holed_13 : decode cX9_holed 13 = .ok (.iconst 1, 1) := by decide +kernel
theorem dX9_holed_14 : decode cX9_holed 14 = .ok (.aload_n 0, 1) := by decide +kernel
theorem dX9_holed_15 : decode cX9_holed 15 = .ok (.getfield 23, 3) := by decide +kernel
theorem dX9_holed_18 : decode cX9_holed 18 = .ok (.iconst 3, 1) := by decide +kernel
theorem dX9_holed_19 : decode cX9_holed 19 = .ok (.iload_n 2, 1) := by decide +kernel
theorem dX9_holed_20 : decode cX9_holed 20 = .ok (.imul, 1) := by decide +kernel
theorem dX9_holed_21 : decode cX9_holed 21 = .ok (.iaload, 1) := by decide +kernel
theorem dX9_holed_22 : decode cX9_holed 22 = .ok (.ishl, 1) := by decide +kernel
theorem dX9_holed_23 : decode cX9_holed 23 = .ok (.ior, 1) := by decide +kernel
theorem dX9_holed_24 : decode cX9_holed 24 = .ok (.istore_n 1, 1) := by decide +kernel
theorem dX9_holed_25 : decode cX9_holed 25 = .ok (.iinc 2 1, 3) := by decide +kernel
theorem dX9_holed_28 : decode cX9_holed 28 = .ok (.goto (-24), 3) := by decide +kernel
theorem dX9_holed_31 : decode cX9_holed 31 = .ok (.iload_n 1, 1) := by decide +kernel
theorem dX9_holed_32 : decode cX9_holed 32 = .ok (.ireturn, 1) := by decide +kernel
theorem dX9_openDoors_0 : decode cX9_openDoors 0 = .ok (.iconst 0, 1) := by decide +kernel
theorem dX9_openDoors_1 : decode cX9_openDoors 1 = .ok (.istore_n 1, 1) := by decide +kernel
theorem dX9_openDoors_2 : decode cX9_openDoors 2 = .ok (.iconst 0, 1) := by decide +kernel
theorem dX9_openDoors_3 : decode cX9_openDoors 3 = .ok (.istore_n 2, 1) := by decide +kernel
theorem dX9_openDoors_4 : decode cX9_openDoors 4 = .ok (.iload_n 2, 1) := by decide +kernel
theorem dX9_openDoors_5 : decode cX9_openDoors 5 = .ok (.aload_n 0, 1) := by decide +kernel
theorem dX9_openDoors_6 : decode cX9_openDoors 6 = .ok (.getfield 96, 3) := by decide +kernel
theorem dX9_openDoors_9 : decode cX9_openDoors 9 = .ok (.if_icmp .ge 32, 3) := by decide +kernel
theorem dX9_openDoors_12 : decode cX9_openDoors 12 = .ok (.iload_n 1, 1) := by decide +kernel
theorem dX9_openDoors_13 : decode cX9_openDoors 13 = .ok (.aload_n 0, 1) := by decide +kernel
theorem dX9_openDoors_14 : decode cX9_openDoors 14 = .ok (.getfield 7, 3) := by decide +kernel
theorem dX9_openDoors_17 : decode cX9_openDoors 17 = .ok (.bipush 16, 2) := by decide +kernel
theorem dX9_openDoors_19 : decode cX9_openDoors 19 = .ok (.iload_n 2, 1) := by decide +kernel
theorem dX9_openDoors_20 : decode cX9_openDoors 20 = .ok (.iadd, 1) := by decide +kernel
theorem dX9_openDoors_21 : decode cX9_openDoors 21 = .ok (.iaload, 1) := by decide +kernel
theorem dX9_openDoors_22 : decode cX9_openDoors 22 = .ok (.iconst 1, 1) := by decide +kernel
theorem dX9_openDoors_23 : decode cX9_openDoors 23 = .ok (.if_icmp .ne 9, 3) := by decide +kernel
theorem dX9_openDoors_26 : decode cX9_openDoors 26 = .ok (.iconst 1, 1) := by decide +kernel
theorem dX9_openDoors_27 : decode cX9_openDoors 27 = .ok (.iload_n 2, 1) := by decide +kernel
theorem dX9_openDoors_28 : decode cX9_openDoors 28 = .ok (.ishl, 1) := by decide +kernel
theorem dX9_openDoors_29 : decode cX9_openDoors 29 = .ok (.goto 4, 3) := by decide +kernel
theorem dX9_openDoors_32 : decode cX9_openDoors 32 = .ok (.iconst 0, 1) := by decide +kernel
theorem dX9_openDoors_33 : decode cX9_openDoors 33 = .ok (.ior, 1) := by decide +kernel
theorem dX9_openDoors_34 : decode cX9_openDoors 34 = .ok (.istore_n 1, 1) := by decide +kernel
theorem dX9_openDoors_35 : decode cX9_openDoors 35 = .ok (.iinc 2 1, 3) := by decide +kernel
theorem dX9_openDoors_38 : decode cX9_openDoors 38 = .ok (.goto (-34), 3) := by decide +kernel
theorem dX9_openDoors_41 : decode cX9_openDoors 41 = .ok (.iload_n 1, 1) := by decide +kernel
theorem dX9_openDoors_42 : decode cX9_openDoors 42 = .ok (.ireturn, 1) := by decide +kernel
theorem dX9_reach_0 : decode cX9_reach 0 = .ok (.iload_n 1, 1) := by decide +kernel
theorem dX9_reach_1 : decode cX9_reach 1 = .ok (.istore_n 3, 1) := by decide +kernel
theorem dX9_reach_2 : decode cX9_reach 2 = .ok (.iconst 0, 1) := by decide +kernel
theorem dX9_reach_3 : decode cX9_reach 3 = .ok (.istore 4, 2) := by decide +kernel
theorem dX9_reach_5 : decode cX9_reach 5 = .ok (.iload 4, 2) := by decide +kernel
theorem dX9_reach_7 : decode cX9_reach 7 = .ok (.aload_n 0, 1) := by decide +kernel
theorem dX9_reach_8 : decode cX9_reach 8 = .ok (.getfield 93, 3) := by decide +kernel
theorem dX9_reach_11 : decode cX9_reach 11 = .ok (.if_icmp .ge 82, 3) := by decide +kernel
theorem dX9_reach_14 : decode cX9_reach 14 = .ok (.iconst 0, 1) := by decide +kernel
theorem dX9_reach_15 : decode cX9_reach 15 = .ok (.istore 5, 2) := by decide +kernel
theorem dX9_reach_17 : decode cX9_reach 17 = .ok (.iload 5, 2) := by decide +kernel
theorem dX9_reach_19 : decode cX9_reach 19 = .ok (.aload_n 0, 1) := by decide +kernel
theorem dX9_reach_20 : decode cX9_reach 20 = .ok (.getfield 96, 3) := by decide +kernel
theorem dX9_reach_23 : decode cX9_reach 23 = .ok (.if_icmp .ge 64, 3) := by decide +kernel
theorem dX9_reach_26 : decode cX9_reach 26 = .ok (.iconst 1, 1) := by decide +kernel
theorem dX9_reach_27 : decode cX9_reach 27 = .ok (.aload_n 0, 1) := by decide +kernel
theorem dX9_reach_28 : decode cX9_reach 28 = .ok (.getfield 20, 3) := by decide +kernel
theorem dX9_reach_31 : decode cX9_reach 31 = .ok (.bipush 6, 2) := by decide +kernel
theorem dX9_reach_33 : decode cX9_reach 33 = .ok (.iload 5, 2) := by decide +kernel
theorem dX9_reach_35 : decode cX9_reach 35 = .ok (.imul, 1) := by decide +kernel
theorem dX9_reach_36 : decode cX9_reach 36 = .ok (.iaload, 1) := by decide +kernel
theorem dX9_reach_37 : decode cX9_reach 37 = .ok (.ishl, 1) := by decide +kernel
theorem dX9_reach_38 : decode cX9_reach 38 = .ok (.iconst 1, 1) := by decide +kernel
theorem dX9_reach_39 : decode cX9_reach 39 = .ok (.aload_n 0, 1) := by decide +kernel
theorem dX9_reach_40 : decode cX9_reach 40 = .ok (.getfield 20, 3) := by decide +kernel
theorem dX9_reach_43 : decode cX9_reach 43 = .ok (.bipush 6, 2) := by decide +kernel
theorem dX9_reach_45 : decode cX9_reach 45 = .ok (.iload 5, 2) := by decide +kernel
theorem dX9_reach_47 : decode cX9_reach 47 = .ok (.imul, 1) := by decide +kernel
theorem dX9_reach_48 : decode cX9_reach 48 = .ok (.iconst 1, 1) := by decide +kernel
theorem dX9_reach_49 : decode cX9_reach 49 = .ok (.iadd, 1) := by decide +kernel
theorem dX9_reach_50 : decode cX9_reach 50 = .ok (.iaload, 1) := by decide +kernel
theorem dX9_reach_51 : decode cX9_reach 51 = .ok (.ishl, 1) := by decide +kernel
theorem dX9_reach_52 : decode cX9_reach 52 = .ok (.ior, 1) := by decide +kernel
theorem dX9_reach_53 : decode cX9_reach 53 = .ok (.istore 6, 2) := by decide +kernel
theorem dX9_reach_55 : decode cX9_reach 55 = .ok (.iload_n 3, 1) := by decide +kernel
theorem dX9_reach_56 : decode cX9_reach 56 = .ok (.iload_n 2, 1) := by decide +kernel
theorem dX9_reach_57 : decode cX9_reach 57 = .ok (.iload 5, 2) := by decide +kernel
theorem dX9_reach_59 : decode cX9_reach 59 = .ok (.ishr, 1) := by decide +kernel
theorem dX9_reach_60 : decode cX9_reach 60 = .ok (.iconst 1, 1) := by decide +kernel
theorem dX9_reach_61 : decode cX9_reach 61 = .ok (.iand, 1) := by decide +kernel
theorem dX9_reach_62 : decode cX9_reach 62 = .ok (.iconst 1, 1) := by decide +kernel
theorem dX9_reach_63 : decode cX9_reach 63 = .ok (.if_icmp .ne 15, 3) := by decide +kernel
theorem dX9_reach_66 : decode cX9_reach 66 = .ok (.iload_n 3, 1) := by decide +kernel
theorem dX9_reach_67 : decode cX9_reach 67 = .ok (.iload 6, 2) := by decide +kernel
theorem dX9_reach_69 : decode cX9_reach 69 = .ok (.iand, 1) := by decide +kernel
theorem dX9_reach_70 : decode cX9_reach 70 = .ok (.ifCond .eq 8, 3) := by decide +kernel
theorem dX9_reach_73 : decode cX9_reach 73 = .ok (.iload 6, 2) := by decide +kernel
theorem dX9_reach_75 : decode cX9_reach 75 = .ok (.goto 4, 3) := by decide +kernel
theorem dX9_reach_78 : decode cX9_reach 78 = .ok (.iconst 0, 1) := by decide +kernel
theorem dX9_reach_79 : decode cX9_reach 79 = .ok (.ior, 1) := by decide +kernel
theorem dX9_reach_80 : decode cX9_reach 80 = .ok (.istore_n 3, 1) := by decide +kernel
theorem dX9_reach_81 : decode cX9_reach 81 = .ok (.iinc 5 1, 3) := by decide +kernel
theorem dX9_reach_84 : decode cX9_reach 84 = .ok (.goto (-67), 3) := by decide +kernel
theorem dX9_reach_87 : decode cX9_reach 87 = .ok (.iinc 4 1, 3) := by decide +kernel
theorem dX9_reach_90 : decode cX9_reach 90 = .ok (.goto (-85), 3) := by decide +kernel
theorem dX9_reach_93 : decode cX9_reach 93 = .ok (.iload_n 3, 1) := by decide +kernel
theorem dX9_reach_94 : decode cX9_reach 94 = .ok (.ireturn, 1) := by decide +kernel
theorem dX9_dry_0 : decode cX9_dry 0 = .ok (.aload_n 0, 1) := by decide +kernel
theorem dX9_dry_1 : decode cX9_dry 1 = .ok (.iload_n 1, 1) := by decide +kernel
theorem dX9_dry_2 : decode cX9_dry 2 = .ok (.invokevirtual 220, 3) := by decide +kernel
theorem dX9_dry_5 : decode cX9_dry 5 = .ok (.ifCond .eq 13, 3) := by decide +kernel
theorem dX9_dry_8 : decode cX9_dry 8 = .ok (.iload_n 2, 1) := by decide +kernel
theorem dX9_dry_9 : decode cX9_dry 9 = .ok (.i2l, 1) := by decide +kernel
theorem dX9_dry_10 : decode cX9_dry 10 = .ok (.lconst 0, 1) := by decide +kernel
theorem dX9_dry_11 : decode cX9_dry 11 = .ok (.lconst 1, 1) := by decide +kernel
theorem dX9_dry_12 : decode cX9_dry 12 = .ok (.invokestatic 114, 3) := by decide +kernel
theorem dX9_dry_15 : decode cX9_dry 15 = .ok (.ifCond .ne 5, 3) := by decide +kernel
theorem dX9_dry_18 : decode cX9_dry 18 = .ok (.iconst (-1), 1) := by decide +kernel
theorem dX9_dry_19 : decode cX9_dry 19 = .ok (.ireturn, 1) := by decide +kernel
theorem dX9_dry_20 : decode cX9_dry 20 = .ok (.aload_n 0, 1) := by decide +kernel
theorem dX9_dry_21 : decode cX9_dry 21 = .ok (.invokevirtual 345, 3) := by decide +kernel
theorem dX9_dry_24 : decode cX9_dry 24 = .ok (.iload_n 1, 1) := by decide +kernel
theorem dX9_dry_25 : decode cX9_dry 25 = .ok (.ishr, 1) := by decide +kernel
theorem dX9_dry_26 : decode cX9_dry 26 = .ok (.iconst 1, 1) := by decide +kernel
theorem dX9_dry_27 : decode cX9_dry 27 = .ok (.iand, 1) := by decide +kernel
theorem dX9_dry_28 : decode cX9_dry 28 = .ok (.iconst 1, 1) := by decide +kernel
theorem dX9_dry_29 : decode cX9_dry 29 = .ok (.if_icmp .ne 6, 3) := by decide +kernel
theorem dX9_dry_32 : decode cX9_dry 32 = .ok (.bipush (-4), 2) := by decide +kernel
theorem dX9_dry_34 : decode cX9_dry 34 = .ok (.ireturn, 1) := by decide +kernel
theorem dX9_dry_35 : decode cX9_dry 35 = .ok (.aload_n 0, 1) := by decide +kernel
theorem dX9_dry_36 : decode cX9_dry 36 = .ok (.invokevirtual 339, 3) := by decide +kernel
theorem dX9_dry_39 : decode cX9_dry 39 = .ok (.istore_n 3, 1) := by decide +kernel
theorem dX9_dry_40 : decode cX9_dry 40 = .ok (.bipush (-4), 2) := by decide +kernel
theorem dX9_dry_42 : decode cX9_dry 42 = .ok (.istore 4, 2) := by decide +kernel
theorem dX9_dry_44 : decode cX9_dry 44 = .ok (.iconst 0, 1) := by decide +kernel
theorem dX9_dry_45 : decode cX9_dry 45 = .ok (.istore 5, 2) := by decide +kernel
theorem dX9_dry_47 : decode cX9_dry 47 = .ok (.iload 5, 2) := by decide +kernel
theorem dX9_dry_49 : decode cX9_dry 49 = .ok (.iconst 1, 1) := by decide +kernel
theorem dX9_dry_50 : decode cX9_dry 50 = .ok (.aload_n 0, 1) := by decide +kernel
theorem dX9_dry_51 : decode cX9_dry 51 = .ok (.getfield 96, 3) := by decide +kernel
theorem dX9_dry_54 : decode cX9_dry 54 = .ok (.ishl, 1) := by decide +kernel
theorem dX9_dry_55 : decode cX9_dry 55 = .ok (.if_icmp .ge 80, 3) := by decide +kernel
theorem dX9_dry_58 : decode cX9_dry 58 = .ok (.iload 5, 2) := by decide +kernel
theorem dX9_dry_60 : decode cX9_dry 60 = .ok (.iload_n 3, 1) := by decide +kernel
theorem dX9_dry_61 : decode cX9_dry 61 = .ok (.iconst (-1), 1) := by decide +kernel
theorem dX9_dry_62 : decode cX9_dry 62 = .ok (.ixor, 1) := by decide +kernel
theorem dX9_dry_63 : decode cX9_dry 63 = .ok (.iand, 1) := by decide +kernel
theorem dX9_dry_64 : decode cX9_dry 64 = .ok (.ifCond .ne 27, 3) := by decide +kernel
theorem dX9_dry_67 : decode cX9_dry 67 = .ok (.iload 4, 2) := by decide +kernel
theorem dX9_dry_69 : decode cX9_dry 69 = .ok (.bipush (-4), 2) := by decide +kernel
theorem dX9_dry_71 : decode cX9_dry 71 = .ok (.if_icmp .eq 16, 3) := by decide +kernel
theorem dX9_dry_74 : decode cX9_dry 74 = .ok (.iload 5, 2) := by decide +kernel
theorem dX9_dry_76 : decode cX9_dry 76 = .ok (.invokestatic 331, 3) := by decide +kernel
theorem dX9_dry_79 : decode cX9_dry 79 = .ok (.iload 4, 2) := by decide +kernel
theorem dX9_dry_81 : decode cX9_dry 81 = .ok (.invokestatic 331, 3) := by decide +kernel
theorem dX9_dry_84 : decode cX9_dry 84 = .ok (.if_icmp .ge 7, 3) := by decide +kernel
theorem dX9_dry_87 : decode cX9_dry 87 = .ok (.iconst 1, 1) := by decide +kernel
theorem dX9_dry_88 : decode cX9_dry 88 = .ok (.goto 4, 3) := by decide +kernel
theorem dX9_dry_91 : decode cX9_dry 91 = .ok (.iconst 0, 1) := by decide +kernel
theorem dX9_dry_92 : decode cX9_dry 92 = .ok (.istore 6, 2) := by decide +kernel
theorem dX9_dry_94 : decode cX9_dry 94 = .ok (.iload 6, 2) := by decide +kernel
theorem dX9_dry_96 : decode cX9_dry 96 = .ok (.ifCond .eq 29, 3) := by decide +kernel
theorem dX9_dry_99 : decode cX9_dry 99 = .ok (.aload_n 0, 1) := by decide +kernel
theorem dX9_dry_100 : decode cX9_dry 100 = .ok (.aload_n 0, 1) := by decide +kernel
theorem dX9_dry_101 : decode cX9_dry 101 = .ok (.invokevirtual 345, 3) := by decide +kernel
theorem dX9_dry_104 : decode cX9_dry 104 = .ok (.iload_n 3, 1) := by decide +kernel
theorem dX9_dry_105 : decode cX9_dry 105 = .ok (.iload 5, 2) := by decide +kernel
theorem dX9_dry_107 : decode cX9_dry 107 = .ok (.iconst (-1), 1) := by decide +kernel
theorem dX9_dry_108 : decode cX9_dry 108 = .ok (.ixor, 1) := by decide +kernel
theorem dX9_dry_109 : decode cX9_dry 109 = .ok (.iand, 1) := by decide +kernel
theorem dX9_dry_110 : decode cX9_dry 110 = .ok (.invokevirtual 342, 3) := by decide +kernel
theorem dX9_dry_113 : decode cX9_dry 113 = .ok (.iload_n 1, 1) := by decide +kernel
theorem dX9_dry_114 : decode cX9_dry 114 = .ok (.ishr, 1) := by decide +kernel
theorem dX9_dry_115 : decode cX9_dry 115 = .ok (.iconst 1, 1) := by decide +kernel
theorem dX9_dry_116 : decode cX9_dry 116 = .ok (.iand, 1) := by decide +kernel
theorem dX9_dry_117 : decode cX9_dry 117 = .ok (.ifCond .ne 8, 3) := by decide +kernel
theorem dX9_dry_120 : decode cX9_dry 120 = .ok (.iload 5, 2) := by decide +kernel
theorem dX9_dry_122 : decode cX9_dry 122 = .ok (.goto 5, 3) := by decide +kernel
theorem dX9_dry_125 : decode cX9_dry 125 = .ok (.iload 4, 2) := by decide +kernel
theorem dX9_dry_127 : decode cX9_dry 127 = .ok (.istore 4, 2) := by decide +kernel
theorem dX9_dry_129 : decode cX9_dry 129 = .ok (.iinc 5 1, 3) := by decide +kernel
theorem dX9_dry_132 : decode cX9_dry 132 = .ok (.goto (-85), 3) := by decide +kernel
theorem dX9_dry_135 : decode cX9_dry 135 = .ok (.iload_n 2, 1) := by decide +kernel
theorem dX9_dry_136 : decode cX9_dry 136 = .ok (.ifCond .ne 11, 3) := by decide +kernel
theorem dX9_dry_139 : decode cX9_dry 139 = .ok (.iload 4, 2) := by decide +kernel
theorem dX9_dry_141 : decode cX9_dry 141 = .ok (.invokestatic 331, 3) := by decide +kernel
theorem dX9_dry_144 : decode cX9_dry 144 = .ok (.goto 5, 3) := by decide +kernel
theorem dX9_dry_147 : decode cX9_dry 147 = .ok (.iload 4, 2) := by decide +kernel
theorem dX9_dry_149 : decode cX9_dry 149 = .ok (.ireturn, 1) := by decide +kernel
theorem dX9_end_0 : decode cX9_end 0 = .ok (.iload_n 1, 1) := by decide +kernel
theorem dX9_end_1 : decode cX9_end 1 = .ok (.i2l, 1) := by decide +kernel
theorem dX9_end_2 : decode cX9_end 2 = .ok (.lconst 0, 1) := by decide +kernel
theorem dX9_end_3 : decode cX9_end 3 = .ok (.aload_n 0, 1) := by decide +kernel
theorem dX9_end_4 : decode cX9_end 4 = .ok (.getfield 109, 3) := by decide +kernel
theorem dX9_end_7 : decode cX9_end 7 = .ok (.i2l, 1) := by decide +kernel
theorem dX9_end_8 : decode cX9_end 8 = .ok (.invokestatic 114, 3) := by decide +kernel
theorem dX9_end_11 : decode cX9_end 11 = .ok (.ifCond .ne 5, 3) := by decide +kernel
theorem dX9_end_14 : decode cX9_end 14 = .ok (.iconst (-1), 1) := by decide +kernel
theorem dX9_end_15 : decode cX9_end 15 = .ok (.ireturn, 1) := by decide +kernel
theorem dX9_end_16 : decode cX9_end 16 = .ok (.aload_n 0, 1) := by decide +kernel
theorem dX9_end_17 : decode cX9_end 17 = .ok (.getfield 109, 3) := by decide +kernel
theorem dX9_end_20 : decode cX9_end 20 = .ok (.istore_n 2, 1) := by decide +kernel
theorem dX9_end_21 : decode cX9_end 21 = .ok (.aload_n 0, 1) := by decide +kernel
theorem dX9_end_22 : decode cX9_end 22 = .ok (.iload_n 1, 1) := by decide +kernel
theorem dX9_end_23 : decode cX9_end 23 = .ok (.putfield 109, 3) := by decide +kernel
theorem dX9_end_26 : decode cX9_end 26 = .ok (.iload_n 2, 1) := by decide +kernel
theorem dX9_end_27 : decode cX9_end 27 = .ok (.ireturn, 1) := by decide +kernel
theorem dX9_fault_0 : decode cX9_fault 0 = .ok (.aload_n 0, 1) := by decide +kernel
theorem dX9_fault_1 : decode cX9_fault 1 = .ok (.getfield 118, 3) := by decide +kernel
theorem dX9_fault_4 : decode cX9_fault 4 = .ok (.ireturn, 1) := by decide +kernel
theorem dX9_feed_0 : decode cX9_feed 0 = .ok (.aload_n 0, 1) := by decide +kernel
theorem dX9_feed_1 : decode cX9_feed 1 = .ok (.getfield 109, 3) := by decide +kernel
theorem dX9_feed_4 : decode cX9_feed 4 = .ok (.bipush 8, 2) := by decide +kernel
theorem dX9_feed_6 : decode cX9_feed 6 = .ok (.iadd, 1) := by decide +kernel
theorem dX9_feed_7 : decode cX9_feed 7 = .ok (.sipush 400, 3) := by decide +kernel
theorem dX9_feed_10 : decode cX9_feed 10 = .ok (.if_icmp .le 6, 3) := by decide +kernel
theorem dX9_feed_13 : decode cX9_feed 13 = .ok (.bipush (-3), 2) := by decide +kernel
theorem dX9_feed_15 : decode cX9_feed 15 = .ok (.ireturn, 1) := by decide +kernel
theorem dX9_feed_16 : decode cX9_feed 16 = .ok (.bipush 56, 2) := by decide +kernel
theorem dX9_feed_18 : decode cX9_feed 18 = .ok (.istore_n 3, 1) := by decide +kernel
theorem dX9_feed_19 : decode cX9_feed 19 = .ok (.iload_n 3, 1) := by decide +kernel
theorem dX9_feed_20 : decode cX9_feed 20 = .ok (.ifCond .lt 36, 3) := by decide +kernel
theorem dX9_feed_23 : decode cX9_feed 23 = .ok (.aload_n 0, 1) := by decide +kernel
theorem dX9_feed_24 : decode cX9_feed 24 = .ok (.getfield 50, 3) := by decide +kernel
theorem dX9_feed_27 : decode cX9_feed 27 = .ok (.aload_n 0, 1) := by decide +kernel
theorem dX9_feed_28 : decode cX9_feed 28 = .ok (.getfield 109, 3) := by decide +kernel
theorem dX9_feed_31 : decode cX9_feed 31 = .ok (.lload_n 1, 1) := by decide +kernel
theorem dX9_feed_32 : decode cX9_feed 32 = .ok (.iload_n 3, 1) := by decide +kernel
theorem dX9_feed_33 : decode cX9_feed 33 = .ok (.lshr, 1) := by decide +kernel
theorem dX9_feed_34 : decode cX9_feed 34 = .ok (.ldc2_w 112, 3) := by decide +kernel
theorem dX9_feed_37 : decode cX9_feed 37 = .ok (.land, 1) := by decide +kernel
theorem dX9_feed_38 : decode cX9_feed 38 = .ok (.l2i, 1) := by decide +kernel
theorem dX9_feed_39 : decode cX9_feed 39 = .ok (.iastore, 1) := by decide +kernel
theorem dX9_feed_40 : decode cX9_feed 40 = .ok (.aload_n 0, 1) := by decide +kernel
theorem dX9_feed_41 : decode cX9_feed 41 = .ok (.dup, 1) := by decide +kernel
theorem dX9_feed_42 : decode cX9_feed 42 = .ok (.getfield 109, 3) := by decide +kernel
theorem dX9_feed_45 : decode cX9_feed 45 = .ok (.iconst 1, 1) := by decide +kernel
theorem dX9_feed_46 : decode cX9_feed 46 = .ok (.iadd, 1) := by decide +kernel
theorem dX9_feed_47 : decode cX9_feed 47 = .ok (.putfield 109, 3) := by decide +kernel
theorem dX9_feed_50 : decode cX9_feed 50 = .ok (.iinc 3 (-8), 3) := by decide +kernel
theorem dX9_feed_53 : decode cX9_feed 53 = .ok (.goto (-34), 3) := by decide +kernel
theorem dX9_feed_56 : decode cX9_feed 56 = .ok (.aload_n 0, 1) := by decide +kernel
theorem dX9_feed_57 : decode cX9_feed 57 = .ok (.getfield 109, 3) := by decide +kernel
theorem dX9_feed_60 : decode cX9_feed 60 = .ok (.ireturn, 1) := by decide +kernel
theorem dX9_firstDraft_0 : decode cX9_firstDraft 0 = .ok (.aload_n 0, 1) := by decide +kernel
theorem dX9_firstDraft_1 : decode cX9_firstDraft 1 = .ok (.iconst 0, 1) := by decide +kernel
theorem dX9_firstDraft_2 : decode cX9_firstDraft 2 = .ok (.putfield 80, 3) := by decide +kernel
theorem dX9_firstDraft_5 : decode cX9_firstDraft 5 = .ok (.aload_n 0, 1) := by decide +kernel
theorem dX9_firstDraft_6 : decode cX9_firstDraft 6 = .ok (.iconst 0, 1) := by decide +kernel
theorem dX9_firstDraft_7 : decode cX9_firstDraft 7 = .ok (.putfield 84, 3) := by decide +kernel
theorem dX9_firstDraft_10 : decode cX9_firstDraft 10 = .ok (.aload_n 0, 1) := by decide +kernel
theorem dX9_firstDraft_11 : decode cX9_firstDraft 11 = .ok (.iconst 0, 1) := by decide +kernel
theorem dX9_firstDraft_12 : decode cX9_firstDraft 12 = .ok (.putfield 87, 3) := by decide +kernel
theorem dX9_firstDraft_15 : decode cX9_firstDraft 15 = .ok (.aload_n 0, 1) := by decide +kernel
theorem dX9_firstDraft_16 : decode cX9_firstDraft 16 = .ok (.iconst 0, 1) := by decide +kernel
theorem dX9_firstDraft_17 : decode cX9_firstDraft 17 = .ok (.putfield 90, 3) := by decide +kernel
theorem dX9_firstDraft_20 : decode cX9_firstDraft 20 = .ok (.iconst 0, 1) := by decide +kernel
theorem dX9_firstDraft_21 : decode cX9_firstDraft 21 = .ok (.istore_n 1, 1) := by decide +kernel
theorem dX9_firstDraft_22 : decode cX9_firstDraft 22 = .ok (.iload_n 1, 1) := by decide +kernel
theorem dX9_firstDraft_23 : decode cX9_firstDraft 23 = .ok (.iconst 5, 1) := by decide +kernel
theorem dX9_firstDraft_24 : decode cX9_firstDraft 24 = .ok (.if_icmp .ge 62, 3) := by decide +kernel
theorem dX9_firstDraft_27 : decode cX9_firstDraft 27 = .ok (.aload_n 0, 1) := by decide +kernel
theorem dX9_firstDraft_28 : decode cX9_firstDraft 28 = .ok (.getfield 44, 3) := by decide +kernel
theorem dX9_firstDraft_31 : decode cX9_firstDraft 31 = .ok (.iload_n 1, 1) := by decide +kernel
theorem dX9_firstDraft_32 : decode cX9_firstDraft 32 = .ok (.iload_n 1, 1) := by decide +kernel
theorem dX9_firstDraft_33 : decode cX9_firstDraft 33 = .ok (.ifCond .ne 7, 3) := by decide +kernel
theorem dX9_firstDraft_36 : decode cX9_firstDraft 36 = .ok (.iconst 1, 1) := by decide +kernel
theorem dX9_firstDraft_37 : decode cX9_firstDraft 37 = .ok (.goto 35, 3) := by decide +kernel
theorem dX9_firstDraft_40 : decode cX9_firstDraft 40 = .ok (.iload_n 1, 1) := by decide +kernel
theorem dX9_firstDraft_41 : decode cX9_firstDraft 41 = .ok (.iconst 1, 1) := by decide +kernel
theorem dX9_firstDraft_42 : decode cX9_firstDraft 42 = .ok (.if_icmp .ne 9, 3) := by decide +kernel
theorem dX9_firstDraft_45 : decode cX9_firstDraft 45 = .ok (.sipush 400, 3) := by decide +kernel
theorem dX9_firstDraft_48 : decode cX9_firstDraft 48 = .ok (.goto 24, 3) := by decide +kernel
theorem dX9_firstDraft_51 : decode cX9_firstDraft 51 = .ok (.iload_n 1, 1) := by decide +kernel
theorem dX9_firstDraft_52 : decode cX9_firstDraft 52 = .ok (.iconst 2, 1) := by decide +kernel
theorem dX9_firstDraft_53 : decode cX9_firstDraft 53 = .ok (.if_icmp .ne 8, 3) := by decide +kernel
theorem dX9_firstDraft_56 : decode cX9_firstDraft 56 = .ok (.bipush 40, 2) := by decide +kernel
theorem dX9_firstDraft_58 : decode cX9_firstDraft 58 = .ok (.goto 14, 3) := by decide +kernel
theorem dX9_firstDraft_61 : decode cX9_firstDraft 61 = .ok (.iload_n 1, 1) := by decide +kernel
theorem dX9_firstDraft_62 : decode cX9_firstDraft 62 = .ok (.iconst 3, 1) := by decide +kernel
theorem dX9_firstDraft_63 : decode cX9_firstDraft 63 = .ok (.if_icmp .ne 8, 3) := by decide +kernel
theorem dX9_firstDraft_66 : decode cX9_firstDraft 66 = .ok (.bipush 60, 2) := by decide +kernel
theorem dX9_firstDraft_68 : decode cX9_firstDraft 68 = .ok (.goto 4, 3) := by decide +kernel
theorem dX9_firstDraft_71 : decode cX9_firstDraft 71 = .ok (.iconst 0, 1) := by decide +kernel
theorem dX9_firstDraft_72 : decode cX9_firstDraft 72 = .ok (.iastore, 1) := by decide +kernel
theorem dX9_firstDraft_73 : decode cX9_firstDraft 73 = .ok (.aload_n 0, 1) := by decide +kernel
theorem dX9_firstDraft_74 : decode cX9_firstDraft 74 = .ok (.getfield 47, 3) := by decide +kernel
theorem dX9_firstDraft_77 : decode cX9_firstDraft 77 = .ok (.iload_n 1, 1) := by decide +kernel
theorem dX9_firstDraft_78 : decode cX9_firstDraft 78 = .ok (.iconst 0, 1) := by decide +kernel
theorem dX9_firstDraft_79 : decode cX9_firstDraft 79 = .ok (.bastore, 1) := by decide +kernel
theorem dX9_firstDraft_80 : decode cX9_firstDraft 80 = .ok (.iinc 1 1, 3) := by decide +kernel
theorem dX9_firstDraft_83 : decode cX9_firstDraft 83 = .ok (.goto (-61), 3) := by decide +kernel
theorem dX9_firstDraft_86 : decode cX9_firstDraft 86 = .ok (.return_, 1) := by decide +kernel
def b_X9_countOf_4 (a0 : Int32) (t1 : Int32 × Int32) : Option ((Int32 × Int32) ⊕ (Int32)) :=
  if (10 : Int32) ≤ t1.2 then (some (Sum.inr t1.1)) else (letv (t1.1 + ((a0 >>> (t1.2 &&& 31)) &&& (1 : Int32))) fun x3 => some (Sum.inl (x3, t1.2 + 1)))
def f_X9_countOf (F : Nat) (a0 : Int32) : Option (Int32) :=
  (iter F (b_X9_countOf_4 a0) ((0, 0) : Int32 × Int32)).bind (fun e2 : Int32 => some e2)
set_option maxHeartbeats 4000000 in
set_option maxRecDepth 100000 in
theorem ct_X9_countOf (F : Nat) {n : Nat} (hn : 135 ≤ n) (P D : Nat) (T : Option Nat) (m : Mm) (a0 : Int32) : Ct yX9_countOf cX9_countOf 3 (some .int) 0 0 [.int a0] n n m (RF P D T) (rP m (RF P D T) (f_X9_countOf F a0)) := by
  refine Ct.ofP (own := RX9) (nm := "countOf") [(0, .int a0)] (by decide) (Nat.le_of_ble_eq_true rfl) rfl rfl rfl ?_
  unfold f_X9_countOf
  refine J_iconst 0 dX9_countOf_0 (by decide) ?_
  refine J_istore_n 1 [(1, .int 0), (0, .int a0)] dX9_countOf_1 rfl (by decide) rfl ?_
  refine J_iconst 0 dX9_countOf_2 (by decide) ?_
  refine J_istore_n 2 [(2, .int 0), (1, .int 0), (0, .int a0)] dX9_countOf_3 rfl (by decide) rfl ?_
  refine J_lv [2, 1, 0] rfl ?_
  refine J_loop (pc := 4) (fun t1 : Int32 × Int32 => [(0, .int a0), (1, .int t1.1), (2, .int t1.2)]) (fun t1 => m) (fun _ => 24) (fun e2 => [(1, .int e2)]) (fun _ => []) (fun e2 => m) ?_ (fun t1 k1 hBt1 hXt1 => ?_) F ((0, 0))
  · refine fun e2 => ?_
    refine J_iload_n 1 0 e2 dX9_countOf_24 rfl rfl ?_
    exact J_iretP dX9_countOf_25 rfl rfl
  · unfold b_X9_countOf_4
    refine J_iload_n 2 2 t1.2 dX9_countOf_4 rfl rfl ?_
    refine J_bipush 10 dX9_countOf_5 (by decide) ?_
    refine J_icmp_ge 24 dX9_countOf_7 (by decide) ?_ ?_
    · exact J_lv [1] rfl (hXt1 t1.1)
    · refine J_iload_n 1 1 t1.1 dX9_countOf_10 rfl rfl ?_
      refine J_iload_n 0 0 a0 dX9_countOf_11 rfl rfl ?_
      refine J_iload_n 2 2 t1.2 dX9_countOf_12 rfl rfl ?_
      refine J_ishr dX9_countOf_13 ?_
      refine J_iconst 1 dX9_countOf_14 (by decide) ?_
      refine J_iand dX9_countOf_15 ?_
      refine J_iadd dX9_countOf_16 ?_
      refine J_let (fun x3 => ?_)
      refine J_istore_n 1 [(1, .int x3), (0, .int a0), (2, .int t1.2)] dX9_countOf_17 rfl (by decide) rfl ?_
      refine J_iinc 2 2 [(2, .int (t1.2 + 1)), (1, .int x3), (0, .int a0)] t1.2 (t1.2 + 1) dX9_countOf_18 rfl rfl (by decide) rfl ?_
      refine J_goto 4 dX9_countOf_21 (by decide) ?_
      exact J_lv [2, 1, 0] rfl (hBt1 (x3, t1.2 + 1))
def f_X9_isDoor (m : Mm) (a1 : Int32) : Option (Int32) :=
  (f_X9_in a1.toInt64 0 (((m 113 4) - (1 : Int32)).toInt64)).bind fun x1 => bG x1
set_option maxHeartbeats 4000000 in
set_option maxRecDepth 100000 in
theorem ct_X9_isDoor (F : Nat) {n : Nat} (hn : 135 ≤ n) (P D : Nat) (T : Option Nat) (m : Mm) (a1 : Int32) : Ct yX9_isDoor cX9_isDoor 2 (some .boolean) 1 25 [.ref 113, .int a1] n n m (RF P D T) (rP m (RF P D T) (f_X9_isDoor m a1)) := by
  refine Ct.ofP (own := RX9) (nm := "isDoor") [(0, .ref 113), (1, .int a1)] (by decide) (Nat.le_of_ble_eq_true rfl) rfl rfl rfl ?_
  unfold f_X9_isDoor
  refine J_iload_n 1 1 a1 dX9_isDoor_0 rfl rfl ?_
  refine J_i2l dX9_isDoor_1 ?_
  refine J_lconst 0 dX9_isDoor_2 (by decide) ?_
  refine J_aload_n 0 0 113 dX9_isDoor_3 rfl rfl ?_
  refine J_getI 113 9 4 dX9_isDoor_4 fl_9_96 rfl rfl (Nat.lt_of_lt_of_le (Nat.le_of_ble_eq_true rfl) hn) ?_
  refine J_iconst 1 dX9_isDoor_7 (by decide) ?_
  refine J_isub dX9_isDoor_8 ?_
  refine J_i2l dX9_isDoor_9 ?_
  refine J_callSP 3 [.long a1.toInt64, .long 0, .long (((m 113 4) - (1 : Int32)).toInt64)] dX9_isDoor_10 mv_X9_in mv_X9_ins lk_9_114 (ct_X9_in F hn P D T m a1.toInt64 0 (((m 113 4) - (1 : Int32)).toInt64)) rfl ⟨by decide, by decide⟩ (Nat.le_of_ble_eq_true rfl) (fun x1 => ?_)
  exact J_bretP dX9_isDoor_13 rfl rfl
def f_X9_door (m : Mm) (a1 : Int32) (a2 : Int32) : Option (Int32) :=
  (f_X9_isDoor m a1).bind fun x1 => if x1 = 0 then (some (-1)) else ((f_X9_in a2.toInt64 0 6).bind fun x3 => if x3 = 0 then (some (-1)) else (if (5 : Int32) ≤ a2 then (if a2 = (5 : Int32) then ((ald m 114 512 ((16 : Int32) + a1)).bind fun x6 => some x6) else ((ald m 114 512 ((26 : Int32) + a1)).bind fun x5 => some x5)) else ((ald m 117 60 (((6 : Int32) * a1) + a2)).bind fun x7 => some x7)))
set_option maxHeartbeats 4000000 in
set_option maxRecDepth 100000 in
theorem ct_X9_door (F : Nat) {n : Nat} (hn : 135 ≤ n) (P D : Nat) (T : Option Nat) (m : Mm) (a1 : Int32) (a2 : Int32) : Ct yX9_door cX9_door 3 (some .int) 2 46 [.ref 113, .int a1, .int a2] n n m (RF P D T) (rP m (RF P D T) (f_X9_door m a1 a2)) := by
  refine Ct.ofP (own := RX9) (nm := "door") [(0, .ref 113), (1, .int a1), (2, .int a2)] (by decide) (Nat.le_of_ble_eq_true rfl) rfl rfl rfl ?_
  unfold f_X9_door
  refine J_aload_n 0 0 113 dX9_door_0 rfl rfl ?_
  refine J_iload_n 1 1 a1 dX9_door_1 rfl rfl ?_
  refine J_callVP 113 9 1 [.int a1] dX9_door_2 mv_X9_isDoor mv_X9_isDoorv lk_9_226 (ct_X9_isDoor F hn P D T m a1) rfl rfl (by decide) rfl (Nat.lt_of_lt_of_le (Nat.le_of_ble_eq_true rfl) hn) ⟨by decide, by decide⟩ (Nat.le_of_ble_eq_true rfl) (fun x1 => ?_)
  refine J_if_eq 20 dX9_door_5 (by decide) ?_ ?_
  · refine J_iconst (-1) dX9_door_20 (by decide) ?_
    exact J_iretP dX9_door_21 rfl rfl
  · refine J_iload_n 2 2 a2 dX9_door_8 rfl rfl ?_
    refine J_i2l dX9_door_9 ?_
    refine J_lconst 0 dX9_door_10 (by decide) ?_
    refine J_ldc2 6 dX9_door_11 kl_9_229 ?_
    refine J_callSP 3 [.long a2.toInt64, .long 0, .long 6] dX9_door_14 mv_X9_in mv_X9_ins lk_9_114 (ct_X9_in F hn P D T m a2.toInt64 0 6) rfl ⟨by decide, by decide⟩ (Nat.le_of_ble_eq_true rfl) (fun x3 => ?_)
    refine J_if_ne 22 dX9_door_17 (by decide) ?_ ?_
    · refine J_iload_n 2 2 a2 dX9_door_22 rfl rfl ?_
      refine J_iconst 5 dX9_door_23 (by decide) ?_
      refine J_icmp_ge 41 dX9_door_24 (by decide) ?_ ?_
      · refine J_iload_n 2 2 a2 dX9_door_41 rfl rfl ?_
        refine J_iconst 5 dX9_door_42 (by decide) ?_
        refine J_icmp_ne 58 dX9_door_43 (by decide) ?_ ?_
        · refine J_aload_n 0 0 113 dX9_door_58 rfl rfl ?_
          refine J_getR 113 9 0 114 dX9_door_59 fl_9_7 rfl rfl (Nat.lt_of_lt_of_le (Nat.le_of_ble_eq_true rfl) hn) rfl ?_
          refine J_bipush 26 dX9_door_62 (by decide) ?_
          refine J_iload_n 1 1 a1 dX9_door_64 rfl rfl ?_
          refine J_iadd dX9_door_65 ?_
          refine J_iald 114 512 dX9_door_66 rfl (Nat.lt_of_lt_of_le (Nat.le_of_ble_eq_true rfl) hn) (fun x5 => ?_)
          exact J_iretP dX9_door_67 rfl rfl
        · refine J_aload_n 0 0 113 dX9_door_46 rfl rfl ?_
          refine J_getR 113 9 0 114 dX9_door_47 fl_9_7 rfl rfl (Nat.lt_of_lt_of_le (Nat.le_of_ble_eq_true rfl) hn) rfl ?_
          refine J_bipush 16 dX9_door_50 (by decide) ?_
          refine J_iload_n 1 1 a1 dX9_door_52 rfl rfl ?_
          refine J_iadd dX9_door_53 ?_
          refine J_iald 114 512 dX9_door_54 rfl (Nat.lt_of_lt_of_le (Nat.le_of_ble_eq_true rfl) hn) (fun x6 => ?_)
          refine J_goto 67 dX9_door_55 (by decide) ?_
          exact J_iretP dX9_door_67 rfl rfl
      · refine J_aload_n 0 0 113 dX9_door_27 rfl rfl ?_
        refine J_getR 113 9 5 117 dX9_door_28 fl_9_20 rfl rfl (Nat.lt_of_lt_of_le (Nat.le_of_ble_eq_true rfl) hn) rfl ?_
        refine J_bipush 6 dX9_door_31 (by decide) ?_
        refine J_iload_n 1 1 a1 dX9_door_33 rfl rfl ?_
        refine J_imul dX9_door_34 ?_
        refine J_iload_n 2 2 a2 dX9_door_35 rfl rfl ?_
        refine J_iadd dX9_door_36 ?_
        refine J_iald 117 60 dX9_door_37 rfl (Nat.lt_of_lt_of_le (Nat.le_of_ble_eq_true rfl) hn) (fun x7 => ?_)
        refine J_goto 67 dX9_door_38 (by decide) ?_
        exact J_iretP dX9_door_67 rfl rfl
    · refine J_iconst (-1) dX9_door_20 (by decide) ?_
      exact J_iretP dX9_door_21 rfl rfl
def b_X9_holed_4 (m : Mm) (t1 : Int32 × Int32) : Option ((Int32 × Int32) ⊕ (Int32)) :=
  if (m 113 6) ≤ t1.2 then (some (Sum.inr t1.1)) else ((ald m 118 12 ((3 : Int32) * t1.2)).bind fun x3 => letv (t1.1 ||| ((1 : Int32) <<< (x3 &&& 31))) fun x4 => some (Sum.inl (x4, t1.2 + 1)))
def f_X9_holed (F : Nat) (m : Mm) : Option (Int32) :=
  (iter F (b_X9_holed_4 m) ((0, 0) : Int32 × Int32)).bind (fun e2 : Int32 => some e2)
set_option maxHeartbeats 4000000 in
set_option maxRecDepth 100000 in
theorem ct_X9_holed (F : Nat) {n : Nat} (hn : 135 ≤ n) (P D : Nat) (T : Option Nat) (m : Mm)  : Ct yX9_holed cX9_holed 3 (some .int) 0 0 [.ref 113] n n m (RF P D T) (rP m (RF P D T) (f_X9_holed F m)) := by
  refine Ct.ofP (own := RX9) (nm := "holed") [(0, .ref 113)] (by decide) (Nat.le_of_ble_eq_true rfl) rfl rfl rfl ?_
  unfold f_X9_holed
  refine J_iconst 0 dX9_holed_0 (by decide) ?_
  refine J_istore_n 1 [(1, .int 0), (0, .ref 113)] dX9_holed_1 rfl (by decide) rfl ?_
  refine J_iconst 0 dX9_holed_2 (by decide) ?_
  refine J_istore_n 2 [(2, .int 0), (1, .int 0), (0, .ref 113)] dX9_holed_3 rfl (by decide) rfl ?_
  refine J_lv [2, 1, 0] rfl ?_
  refine J_loop (pc := 4) (fun t1 : Int32 × Int32 => [(0, .ref 113), (1, .int t1.1), (2, .int t1.2)]) (fun t1 => m) (fun _ => 31) (fun e2 => [(1, .int e2)]) (fun _ => []) (fun e2 => m) ?_ (fun t1 k1 hBt1 hXt1 => ?_) F ((0, 0))
  · refine fun e2 => ?_
    refine J_iload_n 1 0 e2 dX9_holed_31 rfl rfl ?_
    exact J_iretP dX9_holed_32 rfl rfl
  · unfold b_X9_holed_4
    refine J_iload_n 2 2 t1.2 dX9_holed_4 rfl rfl ?_
    refine J_aload_n 0 0 113 dX9_holed_5 rfl rfl ?_
    refine J_getI 113 9 6 dX9_holed_6 fl_9_99 rfl rfl (Nat.lt_of_lt_of_le (Nat.le_of_ble_eq_true rfl) hn) ?_
    refine J_icmp_ge 31 dX9_holed_9 (by decide) ?_ ?_
    · exact J_lv [1] rfl (hXt1 t1.1)
    · refine J_iload_n 1 1 t1.1 dX9_holed_12 rfl rfl ?_
      refine J_iconst 1 dX9_holed_13 (by decide) ?_
      refine J_aload_n 0 0 113 dX9_holed_14 rfl rfl ?_
      refine J_getR 113 9 7 118 dX9_holed_15 fl_9_23 rfl rfl (Nat.lt_of_lt_of_le (Nat.le_of_ble_eq_true rfl) hn) rfl ?_
      refine J_iconst 3 dX9_holed_18 (by decide) ?_
      refine J_iload_n 2 2 t1.2 dX9_holed_19 rfl rfl ?_
      refine J_imul dX9_holed_20 ?_
      refine J_iald 118 12 dX9_holed_21 rfl (Nat.lt_of_lt_of_le (Nat.le_of_ble_eq_true rfl) hn) (fun x3 => ?_)
      refine J_ishl dX9_holed_22 ?_
      refine J_ior dX9_holed_23 ?_
      refine J_let (fun x4 => ?_)
      refine J_istore_n 1 [(1, .int x4), (0, .ref 113), (2, .int t1.2)] dX9_holed_24 rfl (by decide) rfl ?_
      refine J_iinc 2 2 [(2, .int (t1.2 + 1)), (1, .int x4), (0, .ref 113)] t1.2 (t1.2 + 1) dX9_holed_25 rfl rfl (by decide) rfl ?_
      refine J_goto 4 dX9_holed_28 (by decide) ?_
      exact J_lv [2, 1, 0] rfl (hBt1 (x4, t1.2 + 1))
def b_X9_openDoors_4 (m : Mm) (t1 : Int32 × Int32) : Option ((Int32 × Int32) ⊕ (Int32)) :=
  if (m 113 4) ≤ t1.2 then (some (Sum.inr t1.1)) else ((ald m 114 512 ((16 : Int32) + t1.2)).bind fun x3 => (if x3 = (1 : Int32) then (some ((1 : Int32) <<< (t1.2 &&& 31))) else (some 0) : Option (Int32)).bind fun y4 => letv (t1.1 ||| y4) fun x5 => some (Sum.inl (x5, t1.2 + 1)))
def f_X9_openDoors (F : Nat) (m : Mm) : Option (Int32) :=
  (iter F (b_X9_openDoors_4 m) ((0, 0) : Int32 × Int32)).bind (fun e2 : Int32 => some e2)
set_option maxHeartbeats 4000000 in
set_option maxRecDepth 100000 in
theorem ct_X9_openDoors (F : Nat) {n : Nat} (hn : 135 ≤ n) (P D : Nat) (T : Option Nat) (m : Mm)  : Ct yX9_openDoors cX9_openDoors 3 (some .int) 0 0 [.ref 113] n n m (RF P D T) (rP m (RF P D T) (f_X9_openDoors F m)) := by
  refine Ct.ofP (own := RX9) (nm := "openDoors") [(0, .ref 113)] (by decide) (Nat.le_of_ble_eq_true rfl) rfl rfl rfl ?_
  unfold f_X9_openDoors
  refine J_iconst 0 dX9_openDoors_0 (by decide) ?_
  refine J_istore_n 1 [(1, .int 0), (0, .ref 113)] dX9_openDoors_1 rfl (by decide) rfl ?_
  refine J_iconst 0 dX9_openDoors_2 (by decide) ?_
  refine J_istore_n 2 [(2, .int 0), (1, .int 0), (0, .ref 113)] dX9_openDoors_3 rfl (by decide) rfl ?_
  refine J_lv [2, 1, 0] rfl ?_
  refine J_loop (pc := 4) (fun t1 : Int32 × Int32 => [(0, .ref 113), (1, .int t1.1), (2, .int t1.2)]) (fun t1 => m) (fun _ => 41) (fun e2 => [(1, .int e2)]) (fun _ => []) (fun e2 => m) ?_ (fun t1 k1 hBt1 hXt1 => ?_) F ((0, 0))
  · refine fun e2 => ?_
    refine J_iload_n 1 0 e2 dX9_openDoors_41 rfl rfl ?_
    exact J_iretP dX9_openDoors_42 rfl rfl
  · unfold b_X9_openDoors_4
    refine J_iload_n 2 2 t1.2 dX9_openDoors_4 rfl rfl ?_
    refine J_aload_n 0 0 113 dX9_openDoors_5 rfl rfl ?_
    refine J_getI 113 9 4 dX9_openDoors_6 fl_9_96 rfl rfl (Nat.lt_of_lt_of_le (Nat.le_of_ble_eq_true rfl) hn) ?_
    refine J_icmp_ge 41 dX9_openDoors_9 (by decide) ?_ ?_
    · exact J_lv [1] rfl (hXt1 t1.1)
    · refine J_iload_n 1 1 t1.1 dX9_openDoors_12 rfl rfl ?_
      refine J_aload_n 0 0 113 dX9_openDoors_13 rfl rfl ?_
      refine J_getR 113 9 0 114 dX9_openDoors_14 fl_9_7 rfl rfl (Nat.lt_of_lt_of_le (Nat.le_of_ble_eq_true rfl) hn) rfl ?_
      refine J_bipush 16 dX9_openDoors_17 (by decide) ?_
      refine J_iload_n 2 2 t1.2 dX9_openDoors_19 rfl rfl ?_
      refine J_iadd dX9_openDoors_20 ?_
      refine J_iald 114 512 dX9_openDoors_21 rfl (Nat.lt_of_lt_of_le (Nat.le_of_ble_eq_true rfl) hn) (fun x3 => ?_)
      refine J_iconst 1 dX9_openDoors_22 (by decide) ?_
      refine J_seqJ 33 (fun y4 : Int32 => [(0, .ref 113), (2, .int t1.2)]) (fun y4 => [.int y4, .int t1.1]) (fun y4 => m) (fun y4 => ?_) (fun k1 hEy4 => ?_)
      · refine J_ior dX9_openDoors_33 ?_
        refine J_let (fun x5 => ?_)
        refine J_istore_n 1 [(1, .int x5), (0, .ref 113), (2, .int t1.2)] dX9_openDoors_34 rfl (by decide) rfl ?_
        refine J_iinc 2 2 [(2, .int (t1.2 + 1)), (1, .int x5), (0, .ref 113)] t1.2 (t1.2 + 1) dX9_openDoors_35 rfl rfl (by decide) rfl ?_
        refine J_goto 4 dX9_openDoors_38 (by decide) ?_
        exact J_lv [2, 1, 0] rfl (hBt1 (x5, t1.2 + 1))
      · refine J_icmp_ne 32 dX9_openDoors_23 (by decide) ?_ ?_
        · refine J_iconst 0 dX9_openDoors_32 (by decide) ?_
          exact J_lv [0, 2] rfl (hEy4 0)
        · refine J_iconst 1 dX9_openDoors_26 (by decide) ?_
          refine J_iload_n 2 2 t1.2 dX9_openDoors_27 rfl rfl ?_
          refine J_ishl dX9_openDoors_28 ?_
          refine J_goto 33 dX9_openDoors_29 (by decide) ?_
          exact J_lv [0, 2] rfl (hEy4 ((1 : Int32) <<< (t1.2 &&& 31)))
def b_X9_reach_17 (m : Mm) (a2 : Int32) (t3 : Int32 × Int32) : Option ((Int32 × Int32) ⊕ (Int32)) :=
  if (m 113 4) ≤ t3.2 then (some (Sum.inr t3.1)) else ((ald m 117 60 ((6 : Int32) * t3.2)).bind fun x5 => (ald m 117 60 (((6 : Int32) * t3.2) + (1 : Int32))).bind fun x6 => letv (((1 : Int32) <<< (x5 &&& 31)) ||| ((1 : Int32) <<< (x6 &&& 31))) fun x7 => (if ((a2 >>> (t3.2 &&& 31)) &&& (1 : Int32)) = (1 : Int32) then (if (t3.1 &&& x7) = 0 then (some 0) else (some x7)) else (some 0) : Option (Int32)).bind fun y8 => letv (t3.1 ||| y8) fun x9 => some (Sum.inl (x9, t3.2 + 1)))
def b_X9_reach_5 (F : Nat) (m : Mm) (a2 : Int32) (t1 : Int32 × Int32) : Option ((Int32 × Int32) ⊕ (Int32)) :=
  if (m 113 2) ≤ t1.2 then (some (Sum.inr t1.1)) else ((iter F (b_X9_reach_17 m a2) ((t1.1, 0) : Int32 × Int32)).bind (fun e4 : Int32 => some (Sum.inl (e4, t1.2 + 1))))
def f_X9_reach (F : Nat) (m : Mm) (a1 : Int32) (a2 : Int32) : Option (Int32) :=
  (iter F (b_X9_reach_5 F m a2) ((a1, 0) : Int32 × Int32)).bind (fun e2 : Int32 => some e2)
set_option maxHeartbeats 4000000 in
set_option maxRecDepth 100000 in
theorem ct_X9_reach (F : Nat) {n : Nat} (hn : 135 ≤ n) (P D : Nat) (T : Option Nat) (m : Mm) (a1 : Int32) (a2 : Int32) : Ct yX9_reach cX9_reach 7 (some .int) 0 0 [.ref 113, .int a1, .int a2] n n m (RF P D T) (rP m (RF P D T) (f_X9_reach F m a1 a2)) := by
  refine Ct.ofP (own := RX9) (nm := "reach") [(0, .ref 113), (1, .int a1), (2, .int a2)] (by decide) (Nat.le_of_ble_eq_true rfl) rfl rfl rfl ?_
  unfold f_X9_reach
  refine J_iload_n 1 1 a1 dX9_reach_0 rfl rfl ?_
  refine J_istore_n 3 [(3, .int a1), (0, .ref 113), (1, .int a1), (2, .int a2)] dX9_reach_1 rfl (by decide) rfl ?_
  refine J_iconst 0 dX9_reach_2 (by decide) ?_
  refine J_istore 4 [(4, .int 0), (3, .int a1), (0, .ref 113), (1, .int a1), (2, .int a2)] dX9_reach_3 (by decide) rfl ?_
  refine J_lv [2, 4, 1, 0] rfl ?_
  refine J_loop (pc := 5) (fun t1 : Int32 × Int32 => [(0, .ref 113), (2, .int a2), (3, .int t1.1), (4, .int t1.2)]) (fun t1 => m) (fun _ => 93) (fun e2 => [(3, .int e2)]) (fun _ => []) (fun e2 => m) ?_ (fun t1 k1 hBt1 hXt1 => ?_) F ((a1, 0))
  · refine fun e2 => ?_
    refine J_iload_n 3 0 e2 dX9_reach_93 rfl rfl ?_
    exact J_iretP dX9_reach_94 rfl rfl
  · unfold b_X9_reach_5
    refine J_iload 4 3 t1.2 dX9_reach_5 rfl ?_
    refine J_aload_n 0 0 113 dX9_reach_7 rfl rfl ?_
    refine J_getI 113 9 2 dX9_reach_8 fl_9_93 rfl rfl (Nat.lt_of_lt_of_le (Nat.le_of_ble_eq_true rfl) hn) ?_
    refine J_icmp_ge 93 dX9_reach_11 (by decide) ?_ ?_
    · exact J_lv [2] rfl (hXt1 t1.1)
    · refine J_iconst 0 dX9_reach_14 (by decide) ?_
      refine J_istore 5 [(5, .int 0), (0, .ref 113), (2, .int a2), (3, .int t1.1), (4, .int t1.2)] dX9_reach_15 (by decide) rfl ?_
      refine J_lv [1, 2, 3, 4, 0] rfl ?_
      refine J_loop (pc := 17) (fun t3 : Int32 × Int32 => [(0, .ref 113), (2, .int a2), (3, .int t3.1), (4, .int t1.2), (5, .int t3.2)]) (fun t3 => m) (fun _ => 87) (fun e4 => [(0, .ref 113), (2, .int a2), (3, .int e4), (4, .int t1.2)]) (fun _ => []) (fun e4 => m) ?_ (fun t3 k1 hBt3 hXt3 => ?_) F ((t1.1, 0))
      · refine fun e4 => ?_
        refine J_iinc 4 3 [(4, .int (t1.2 + 1)), (0, .ref 113), (2, .int a2), (3, .int e4)] t1.2 (t1.2 + 1) dX9_reach_87 rfl rfl (by decide) rfl ?_
        refine J_goto 5 dX9_reach_90 (by decide) ?_
        exact J_lv [1, 2, 3, 0] rfl (hBt1 (e4, t1.2 + 1))
      · unfold b_X9_reach_17
        refine J_iload 5 4 t3.2 dX9_reach_17 rfl ?_
        refine J_aload_n 0 0 113 dX9_reach_19 rfl rfl ?_
        refine J_getI 113 9 4 dX9_reach_20 fl_9_96 rfl rfl (Nat.lt_of_lt_of_le (Nat.le_of_ble_eq_true rfl) hn) ?_
        refine J_icmp_ge 87 dX9_reach_23 (by decide) ?_ ?_
        · exact J_lv [0, 1, 2, 3] rfl (hXt3 t3.1)
        · refine J_iconst 1 dX9_reach_26 (by decide) ?_
          refine J_aload_n 0 0 113 dX9_reach_27 rfl rfl ?_
          refine J_getR 113 9 5 117 dX9_reach_28 fl_9_20 rfl rfl (Nat.lt_of_lt_of_le (Nat.le_of_ble_eq_true rfl) hn) rfl ?_
          refine J_bipush 6 dX9_reach_31 (by decide) ?_
          refine J_iload 5 4 t3.2 dX9_reach_33 rfl ?_
          refine J_imul dX9_reach_35 ?_
          refine J_iald 117 60 dX9_reach_36 rfl (Nat.lt_of_lt_of_le (Nat.le_of_ble_eq_true rfl) hn) (fun x5 => ?_)
          refine J_ishl dX9_reach_37 ?_
          refine J_iconst 1 dX9_reach_38 (by decide) ?_
          refine J_aload_n 0 0 113 dX9_reach_39 rfl rfl ?_
          refine J_getR 113 9 5 117 dX9_reach_40 fl_9_20 rfl rfl (Nat.lt_of_lt_of_le (Nat.le_of_ble_eq_true rfl) hn) rfl ?_
          refine J_bipush 6 dX9_reach_43 (by decide) ?_
          refine J_iload 5 4 t3.2 dX9_reach_45 rfl ?_
          refine J_imul dX9_reach_47 ?_
          refine J_iconst 1 dX9_reach_48 (by decide) ?_
          refine J_iadd dX9_reach_49 ?_
          refine J_iald 117 60 dX9_reach_50 rfl (Nat.lt_of_lt_of_le (Nat.le_of_ble_eq_true rfl) hn) (fun x6 => ?_)
          refine J_ishl dX9_reach_51 ?_
          refine J_ior dX9_reach_52 ?_
          refine J_let (fun x7 => ?_)
          refine J_istore 6 [(6, .int x7), (0, .ref 113), (2, .int a2), (3, .int t3.1), (4, .int t1.2), (5, .int t3.2)] dX9_reach_53 (by decide) rfl ?_
          refine J_iload_n 3 3 t3.1 dX9_reach_55 rfl rfl ?_
          refine J_iload_n 2 2 a2 dX9_reach_56 rfl rfl ?_
          refine J_iload 5 5 t3.2 dX9_reach_57 rfl ?_
          refine J_ishr dX9_reach_59 ?_
          refine J_iconst 1 dX9_reach_60 (by decide) ?_
          refine J_iand dX9_reach_61 ?_
          refine J_iconst 1 dX9_reach_62 (by decide) ?_
          refine J_seqJ 79 (fun y8 : Int32 => [(0, .ref 113), (2, .int a2), (4, .int t1.2), (5, .int t3.2)]) (fun y8 => [.int y8, .int t3.1]) (fun y8 => m) (fun y8 => ?_) (fun k1 hEy8 => ?_)
          · refine J_ior dX9_reach_79 ?_
            refine J_let (fun x9 => ?_)
            refine J_istore_n 3 [(3, .int x9), (0, .ref 113), (2, .int a2), (4, .int t1.2), (5, .int t3.2)] dX9_reach_80 rfl (by decide) rfl ?_
            refine J_iinc 5 4 [(5, .int (t3.2 + 1)), (3, .int x9), (0, .ref 113), (2, .int a2), (4, .int t1.2)] t3.2 (t3.2 + 1) dX9_reach_81 rfl rfl (by decide) rfl ?_
            refine J_goto 17 dX9_reach_84 (by decide) ?_
            exact J_lv [2, 3, 1, 4, 0] rfl (hBt3 (x9, t3.2 + 1))
          · refine J_icmp_ne 78 dX9_reach_63 (by decide) ?_ ?_
            · refine J_iconst 0 dX9_reach_78 (by decide) ?_
              exact J_lv [1, 2, 4, 5] rfl (hEy8 0)
            · refine J_iload_n 3 3 t3.1 dX9_reach_66 rfl rfl ?_
              refine J_iload 6 0 x7 dX9_reach_67 rfl ?_
              refine J_iand dX9_reach_69 ?_
              refine J_if_eq 78 dX9_reach_70 (by decide) ?_ ?_
              · refine J_iconst 0 dX9_reach_78 (by decide) ?_
                exact J_lv [1, 2, 4, 5] rfl (hEy8 0)
              · refine J_iload 6 0 x7 dX9_reach_73 rfl ?_
                refine J_goto 79 dX9_reach_75 (by decide) ?_
                exact J_lv [1, 2, 4, 5] rfl (hEy8 x7)
def b_X9_dry_47 (F : Nat) (m : Mm) (a1 : Int32) (x7 : Int32) (t9 : Int32 × Int32) : Option ((Int32 × Int32) ⊕ (Int32)) :=
  if ((1 : Int32) <<< ((m 113 4) &&& 31)) ≤ t9.2 then (some (Sum.inr t9.1)) else ((if (t9.2 &&& (x7 ^^^ ((-1) : Int32))) = 0 then (if t9.1 = ((-4) : Int32) then (some 1) else ((f_X9_countOf F t9.2).bind fun x12 => (f_X9_countOf F t9.1).bind fun x14 => if x14 ≤ x12 then (some 0) else (some 1))) else (some 0) : Option (Int32)).bind fun y11 => (if y11 = 0 then (some t9.1) else ((f_X9_holed F m).bind fun x17 => (f_X9_reach F m x17 (x7 &&& (t9.2 ^^^ ((-1) : Int32)))).bind fun x19 => if ((x19 >>> (a1 &&& 31)) &&& (1 : Int32)) = 0 then (some t9.2) else (some t9.1)) : Option (Int32)).bind fun y16 => some (Sum.inl (y16, t9.2 + 1)))
def f_X9_dry (F : Nat) (m : Mm) (a1 : Int32) (a2 : Int32) : Option (Int32) :=
  (f_X9_isHold m a1).bind fun x1 => if x1 = 0 then (some (-1)) else ((f_X9_in a2.toInt64 0 1).bind fun x3 => if x3 = 0 then (some (-1)) else ((f_X9_holed F m).bind fun x5 => if ((x5 >>> (a1 &&& 31)) &&& (1 : Int32)) = (1 : Int32) then (some (-4)) else ((f_X9_openDoors F m).bind fun x7 => (iter F (b_X9_dry_47 F m a1 x7) (((-4), 0) : Int32 × Int32)).bind (fun e10 : Int32 => if a2 = 0 then ((f_X9_countOf F e10).bind fun x21 => some x21) else (some e10)))))
set_option maxHeartbeats 4000000 in
set_option maxRecDepth 100000 in
theorem ct_X9_dry (F : Nat) {n : Nat} (hn : 135 ≤ n) (P D : Nat) (T : Option Nat) (m : Mm) (a1 : Int32) (a2 : Int32) : Ct yX9_dry cX9_dry 7 (some .int) 2 46 [.ref 113, .int a1, .int a2] n n m (RF P D T) (rP m (RF P D T) (f_X9_dry F m a1 a2)) := by
  refine Ct.ofP (own := RX9) (nm := "dry") [(0, .ref 113), (1, .int a1), (2, .int a2)] (by decide) (Nat.le_of_ble_eq_true rfl) rfl rfl rfl ?_
  unfold f_X9_dry
  refine J_aload_n 0 0 113 dX9_dry_0 rfl rfl ?_
  refine J_iload_n 1 1 a1 dX9_dry_1 rfl rfl ?_
  refine J_callVP 113 9 1 [.int a1] dX9_dry_2 mv_X9_isHold mv_X9_isHoldv lk_9_220 (ct_X9_isHold F hn P D T m a1) rfl rfl (by decide) rfl (Nat.lt_of_lt_of_le (Nat.le_of_ble_eq_true rfl) hn) ⟨by decide, by decide⟩ (Nat.le_of_ble_eq_true rfl) (fun x1 => ?_)
  refine J_if_eq 18 dX9_dry_5 (by decide) ?_ ?_
  · refine J_iconst (-1) dX9_dry_18 (by decide) ?_
    exact J_iretP dX9_dry_19 rfl rfl
  · refine J_iload_n 2 2 a2 dX9_dry_8 rfl rfl ?_
    refine J_i2l dX9_dry_9 ?_
    refine J_lconst 0 dX9_dry_10 (by decide) ?_
    refine J_lconst 1 dX9_dry_11 (by decide) ?_
    refine J_callSP 3 [.long a2.toInt64, .long 0, .long 1] dX9_dry_12 mv_X9_in mv_X9_ins lk_9_114 (ct_X9_in F hn P D T m a2.toInt64 0 1) rfl ⟨by decide, by decide⟩ (Nat.le_of_ble_eq_true rfl) (fun x3 => ?_)
    refine J_if_ne 20 dX9_dry_15 (by decide) ?_ ?_
    · refine J_aload_n 0 0 113 dX9_dry_20 rfl rfl ?_
      refine J_callVP 113 9 0 [] dX9_dry_21 mv_X9_holed mv_X9_holedv lk_9_345 (ct_X9_holed F hn P D T m) rfl rfl (by decide) rfl (Nat.lt_of_lt_of_le (Nat.le_of_ble_eq_true rfl) hn) ⟨by decide, by decide⟩ (Nat.le_of_ble_eq_true rfl) (fun x5 => ?_)
      refine J_iload_n 1 1 a1 dX9_dry_24 rfl rfl ?_
      refine J_ishr dX9_dry_25 ?_
      refine J_iconst 1 dX9_dry_26 (by decide) ?_
      refine J_iand dX9_dry_27 ?_
      refine J_iconst 1 dX9_dry_28 (by decide) ?_
      refine J_icmp_ne 35 dX9_dry_29 (by decide) ?_ ?_
      · refine J_aload_n 0 0 113 dX9_dry_35 rfl rfl ?_
        refine J_callVP 113 9 0 [] dX9_dry_36 mv_X9_openDoors mv_X9_openDoorsv lk_9_339 (ct_X9_openDoors F hn P D T m) rfl rfl (by decide) rfl (Nat.lt_of_lt_of_le (Nat.le_of_ble_eq_true rfl) hn) ⟨by decide, by decide⟩ (Nat.le_of_ble_eq_true rfl) (fun x7 => ?_)
        refine J_istore_n 3 [(3, .int x7), (0, .ref 113), (1, .int a1), (2, .int a2)] dX9_dry_39 rfl (by decide) rfl ?_
        refine J_bipush (-4) dX9_dry_40 (by decide) ?_
        refine J_istore 4 [(4, .int (-4)), (3, .int x7), (0, .ref 113), (1, .int a1), (2, .int a2)] dX9_dry_42 (by decide) rfl ?_
        refine J_iconst 0 dX9_dry_44 (by decide) ?_
        refine J_istore 5 [(5, .int 0), (4, .int (-4)), (3, .int x7), (0, .ref 113), (1, .int a1), (2, .int a2)] dX9_dry_45 (by decide) rfl ?_
        refine J_lv [3, 4, 5, 2, 1, 0] rfl ?_
        refine J_loop (pc := 47) (fun t9 : Int32 × Int32 => [(0, .ref 113), (1, .int a1), (2, .int a2), (3, .int x7), (4, .int t9.1), (5, .int t9.2)]) (fun t9 => m) (fun _ => 135) (fun e10 => [(2, .int a2), (4, .int e10)]) (fun _ => []) (fun e10 => m) ?_ (fun t9 k1 hBt9 hXt9 => ?_) F (((-4), 0))
        · refine fun e10 => ?_
          refine J_iload_n 2 0 a2 dX9_dry_135 rfl rfl ?_
          refine J_if_ne 147 dX9_dry_136 (by decide) ?_ ?_
          · refine J_iload 4 1 e10 dX9_dry_147 rfl ?_
            exact J_iretP dX9_dry_149 rfl rfl
          · refine J_iload 4 1 e10 dX9_dry_139 rfl ?_
            refine J_callSP 1 [.int e10] dX9_dry_141 mv_X9_countOf mv_X9_countOfs lk_9_331 (ct_X9_countOf F hn P D T m e10) rfl ⟨by decide, by decide⟩ (Nat.le_of_ble_eq_true rfl) (fun x21 => ?_)
            refine J_goto 149 dX9_dry_144 (by decide) ?_
            exact J_iretP dX9_dry_149 rfl rfl
        · unfold b_X9_dry_47
          refine J_iload 5 5 t9.2 dX9_dry_47 rfl ?_
          refine J_iconst 1 dX9_dry_49 (by decide) ?_
          refine J_aload_n 0 0 113 dX9_dry_50 rfl rfl ?_
          refine J_getI 113 9 4 dX9_dry_51 fl_9_96 rfl rfl (Nat.lt_of_lt_of_le (Nat.le_of_ble_eq_true rfl) hn) ?_
          refine J_ishl dX9_dry_54 ?_
          refine J_icmp_ge 135 dX9_dry_55 (by decide) ?_ ?_
          · exact J_lv [2, 4] rfl (hXt9 t9.1)
          · refine J_iload 5 5 t9.2 dX9_dry_58 rfl ?_
            refine J_iload_n 3 3 x7 dX9_dry_60 rfl rfl ?_
            refine J_iconst (-1) dX9_dry_61 (by decide) ?_
            refine J_ixor dX9_dry_62 ?_
            refine J_iand dX9_dry_63 ?_
            refine J_seqJ 92 (fun y11 : Int32 => [(0, .ref 113), (1, .int a1), (2, .int a2), (3, .int x7), (4, .int t9.1), (5, .int t9.2)]) (fun y11 => [.int y11]) (fun y11 => m) (fun y11 => ?_) (fun k1 hEy11 => ?_)
            · refine J_istore 6 [(6, .int y11), (0, .ref 113), (1, .int a1), (2, .int a2), (3, .int x7), (4, .int t9.1), (5, .int t9.2)] dX9_dry_92 (by decide) rfl ?_
              refine J_iload 6 0 y11 dX9_dry_94 rfl ?_
              refine J_seqJ 127 (fun y16 : Int32 => [(0, .ref 113), (1, .int a1), (2, .int a2), (3, .int x7), (5, .int t9.2)]) (fun y16 => [.int y16]) (fun y16 => m) (fun y16 => ?_) (fun k1 hEy16 => ?_)
              · refine J_istore 4 [(4, .int y16), (0, .ref 113), (1, .int a1), (2, .int a2), (3, .int x7), (5, .int t9.2)] dX9_dry_127 (by decide) rfl ?_
                refine J_iinc 5 5 [(5, .int (t9.2 + 1)), (4, .int y16), (0, .ref 113), (1, .int a1), (2, .int a2), (3, .int x7)] t9.2 (t9.2 + 1) dX9_dry_129 rfl rfl (by decide) rfl ?_
                refine J_goto 47 dX9_dry_132 (by decide) ?_
                exact J_lv [2, 3, 4, 5, 1, 0] rfl (hBt9 (y16, t9.2 + 1))
              · refine J_if_eq 125 dX9_dry_96 (by decide) ?_ ?_
                · refine J_iload 4 5 t9.1 dX9_dry_125 rfl ?_
                  exact J_lv [1, 2, 3, 4, 6] rfl (hEy16 t9.1)
                · refine J_aload_n 0 1 113 dX9_dry_99 rfl rfl ?_
                  refine J_aload_n 0 1 113 dX9_dry_100 rfl rfl ?_
                  refine J_callVP 113 9 0 [] dX9_dry_101 mv_X9_holed mv_X9_holedv lk_9_345 (ct_X9_holed F hn P D T m) rfl rfl (by decide) rfl (Nat.lt_of_lt_of_le (Nat.le_of_ble_eq_true rfl) hn) ⟨by decide, by decide⟩ (Nat.le_of_ble_eq_true rfl) (fun x17 => ?_)
                  refine J_iload_n 3 4 x7 dX9_dry_104 rfl rfl ?_
                  refine J_iload 5 6 t9.2 dX9_dry_105 rfl ?_
                  refine J_iconst (-1) dX9_dry_107 (by decide) ?_
                  refine J_ixor dX9_dry_108 ?_
                  refine J_iand dX9_dry_109 ?_
                  refine J_callVP 113 9 2 [.int x17, .int (x7 &&& (t9.2 ^^^ ((-1) : Int32)))] dX9_dry_110 mv_X9_reach mv_X9_reachv lk_9_342 (ct_X9_reach F hn P D T m x17 (x7 &&& (t9.2 ^^^ ((-1) : Int32)))) rfl rfl (by decide) rfl (Nat.lt_of_lt_of_le (Nat.le_of_ble_eq_true rfl) hn) ⟨by decide, by decide⟩ (Nat.le_of_ble_eq_true rfl) (fun x19 => ?_)
                  refine J_iload_n 1 2 a1 dX9_dry_113 rfl rfl ?_
                  refine J_ishr dX9_dry_114 ?_
                  refine J_iconst 1 dX9_dry_115 (by decide) ?_
                  refine J_iand dX9_dry_116 ?_
                  refine J_if_ne 125 dX9_dry_117 (by decide) ?_ ?_
                  · refine J_iload 4 5 t9.1 dX9_dry_125 rfl ?_
                    exact J_lv [1, 2, 3, 4, 6] rfl (hEy16 t9.1)
                  · refine J_iload 5 6 t9.2 dX9_dry_120 rfl ?_
                    refine J_goto 127 dX9_dry_122 (by decide) ?_
                    exact J_lv [1, 2, 3, 4, 6] rfl (hEy16 t9.2)
            · refine J_if_ne 91 dX9_dry_64 (by decide) ?_ ?_
              · refine J_iconst 0 dX9_dry_91 (by decide) ?_
                exact J_lv [0, 1, 2, 3, 4, 5] rfl (hEy11 0)
              · refine J_iload 4 4 t9.1 dX9_dry_67 rfl ?_
                refine J_bipush (-4) dX9_dry_69 (by decide) ?_
                refine J_icmp_eq 87 dX9_dry_71 (by decide) ?_ ?_
                · refine J_iconst 1 dX9_dry_87 (by decide) ?_
                  refine J_goto 92 dX9_dry_88 (by decide) ?_
                  exact J_lv [0, 1, 2, 3, 4, 5] rfl (hEy11 1)
                · refine J_iload 5 5 t9.2 dX9_dry_74 rfl ?_
                  refine J_callSP 1 [.int t9.2] dX9_dry_76 mv_X9_countOf mv_X9_countOfs lk_9_331 (ct_X9_countOf F hn P D T m t9.2) rfl ⟨by decide, by decide⟩ (Nat.le_of_ble_eq_true rfl) (fun x12 => ?_)
                  refine J_iload 4 4 t9.1 dX9_dry_79 rfl ?_
                  refine J_callSP 1 [.int t9.1] dX9_dry_81 mv_X9_countOf mv_X9_countOfs lk_9_331 (ct_X9_countOf F hn P D T m t9.1) rfl ⟨by decide, by decide⟩ (Nat.le_of_ble_eq_true rfl) (fun x14 => ?_)
                  refine J_icmp_ge 91 dX9_dry_84 (by decide) ?_ ?_
                  · refine J_iconst 0 dX9_dry_91 (by decide) ?_
                    exact J_lv [0, 1, 2, 3, 4, 5] rfl (hEy11 0)
                  · refine J_iconst 1 dX9_dry_87 (by decide) ?_
                    refine J_goto 92 dX9_dry_88 (by decide) ?_
                    exact J_lv [0, 1, 2, 3, 4, 5] rfl (hEy11 1)
      · refine J_bipush (-4) dX9_dry_32 (by decide) ?_
        exact J_iretP dX9_dry_34 rfl rfl
    · refine J_iconst (-1) dX9_dry_18 (by decide) ?_
      exact J_iretP dX9_dry_19 rfl rfl
def f_X9_end (m : Mm) (a1 : Int32) : Option (Int32 × Mm) :=
  (f_X9_in a1.toInt64 0 ((m 113 22).toInt64)).bind fun x1 => if x1 = 0 then (some ((-1), m)) else (letv (m 113 22) fun x3 => letv (up2 m 113 22 a1) fun m4 => some (x3, m4))
set_option maxHeartbeats 4000000 in
set_option maxRecDepth 100000 in
theorem ct_X9_end (F : Nat) {n : Nat} (hn : 135 ≤ n) (P D : Nat) (T : Option Nat) (m : Mm) (a1 : Int32) : Ct yX9_end cX9_end 3 (some .int) 1 25 [.ref 113, .int a1] n n m (RF P D T) (rI (RF P D T) (f_X9_end m a1)) := by
  refine Ct.ofI (own := RX9) (nm := "end") [(0, .ref 113), (1, .int a1)] (by decide) (Nat.le_of_ble_eq_true rfl) rfl rfl rfl ?_
  unfold f_X9_end
  refine J_iload_n 1 1 a1 dX9_end_0 rfl rfl ?_
  refine J_i2l dX9_end_1 ?_
  refine J_lconst 0 dX9_end_2 (by decide) ?_
  refine J_aload_n 0 0 113 dX9_end_3 rfl rfl ?_
  refine J_getI 113 9 22 dX9_end_4 fl_9_109 rfl rfl (Nat.lt_of_lt_of_le (Nat.le_of_ble_eq_true rfl) hn) ?_
  refine J_i2l dX9_end_7 ?_
  refine J_callSP 3 [.long a1.toInt64, .long 0, .long ((m 113 22).toInt64)] dX9_end_8 mv_X9_in mv_X9_ins lk_9_114 (ct_X9_in F hn P D T m a1.toInt64 0 ((m 113 22).toInt64)) rfl ⟨by decide, by decide⟩ (Nat.le_of_ble_eq_true rfl) (fun x1 => ?_)
  refine J_if_ne 16 dX9_end_11 (by decide) ?_ ?_
  · refine J_aload_n 0 0 113 dX9_end_16 rfl rfl ?_
    refine J_getI 113 9 22 dX9_end_17 fl_9_109 rfl rfl (Nat.lt_of_lt_of_le (Nat.le_of_ble_eq_true rfl) hn) ?_
    refine J_let (fun x3 => ?_)
    refine J_istore_n 2 [(2, .int x3), (0, .ref 113), (1, .int a1)] dX9_end_20 rfl (by decide) rfl ?_
    refine J_aload_n 0 1 113 dX9_end_21 rfl rfl ?_
    refine J_iload_n 1 2 a1 dX9_end_22 rfl rfl ?_
    refine J_putI 113 9 22 dX9_end_23 fl_9_109 rfl rfl (Nat.lt_of_lt_of_le (Nat.le_of_ble_eq_true rfl) hn) rfl rfl rfl (fun m4 => ?_)
    refine J_iload_n 2 0 x3 dX9_end_26 rfl rfl ?_
    exact J_iretI dX9_end_27 rfl rfl
  · refine J_iconst (-1) dX9_end_14 (by decide) ?_
    exact J_iretI dX9_end_15 rfl rfl
def f_X9_fault (m : Mm) : Option (Int32) :=
  some (m 113 27)
set_option maxHeartbeats 4000000 in
set_option maxRecDepth 100000 in
theorem ct_X9_fault (F : Nat) {n : Nat} (hn : 135 ≤ n) (P D : Nat) (T : Option Nat) (m : Mm)  : Ct yX9_fault cX9_fault 1 (some .int) 0 0 [.ref 113] n n m (RF P D T) (rP m (RF P D T) (f_X9_fault m)) := by
  refine Ct.ofP (own := RX9) (nm := "fault") [(0, .ref 113)] (by decide) (Nat.le_of_ble_eq_true rfl) rfl rfl rfl ?_
  unfold f_X9_fault
  refine J_aload_n 0 0 113 dX9_fault_0 rfl rfl ?_
  refine J_getI 113 9 27 dX9_fault_1 fl_9_118 rfl rfl (Nat.lt_of_lt_of_le (Nat.le_of_ble_eq_true rfl) hn) ?_
  exact J_iretP dX9_fault_4 rfl rfl
def b_X9_feed_19 (a1 : Int64) (t1 : Int32 × Mm) : Option ((Int32 × Mm) ⊕ (Mm)) :=
  if t1.1 < 0 then (some (Sum.inr t1.2)) else ((ast t1.2 127 400 (t1.2 113 22) (((a1 >>> (t1.1.toInt64 &&& 63)) &&& (255 : Int64)).toInt32)).bind fun m3 => letv (up2 m3 113 22 ((m3 113 22) + (1 : Int32))) fun m4 => some (Sum.inl (t1.1 + (-8), m4)))
def f_X9_feed (F : Nat) (m : Mm) (a1 : Int64) : Option (Int32 × Mm) :=
  if ((m 113 22) + (8 : Int32)) ≤ (400 : Int32) then ((iter F (b_X9_feed_19 a1) ((56, m) : Int32 × Mm)).bind (fun e2 : Mm => some (e2 113 22, e2))) else (some ((-3), m))
set_option maxHeartbeats 4000000 in
set_option maxRecDepth 100000 in
theorem ct_X9_feed (F : Nat) {n : Nat} (hn : 135 ≤ n) (P D : Nat) (T : Option Nat) (m : Mm) (a1 : Int64) : Ct yX9_feed cX9_feed 4 (some .int) 0 0 [.ref 113, .long a1] n n m (RF P D T) (rI (RF P D T) (f_X9_feed F m a1)) := by
  refine Ct.ofI (own := RX9) (nm := "feed") [(0, .ref 113), (1, .long a1)] (by decide) (Nat.le_of_ble_eq_true rfl) rfl rfl rfl ?_
  unfold f_X9_feed
  refine J_aload_n 0 0 113 dX9_feed_0 rfl rfl ?_
  refine J_getI 113 9 22 dX9_feed_1 fl_9_109 rfl rfl (Nat.lt_of_lt_of_le (Nat.le_of_ble_eq_true rfl) hn) ?_
  refine J_bipush 8 dX9_feed_4 (by decide) ?_
  refine J_iadd dX9_feed_6 ?_
  refine J_sipush 400 dX9_feed_7 (by decide) ?_
  refine J_icmp_le 16 dX9_feed_10 (by decide) ?_ ?_
  · refine J_bipush 56 dX9_feed_16 (by decide) ?_
    refine J_istore_n 3 [(3, .int 56), (0, .ref 113), (1, .long a1)] dX9_feed_18 rfl (by decide) rfl ?_
    refine J_lv [1, 2, 0] rfl ?_
    refine J_loop (pc := 19) (fun t1 : Int32 × Mm => [(0, .ref 113), (1, .long a1), (3, .int t1.1)]) (fun t1 => t1.2) (fun _ => 56) (fun e2 => [(0, .ref 113)]) (fun _ => []) (fun e2 => e2) ?_ (fun t1 k1 hBt1 hXt1 => ?_) F ((56, m))
    · refine fun e2 => ?_
      refine J_aload_n 0 0 113 dX9_feed_56 rfl rfl ?_
      refine J_getI 113 9 22 dX9_feed_57 fl_9_109 rfl rfl (Nat.lt_of_lt_of_le (Nat.le_of_ble_eq_true rfl) hn) ?_
      exact J_iretI dX9_feed_60 rfl rfl
    · unfold b_X9_feed_19
      refine J_iload_n 3 2 t1.1 dX9_feed_19 rfl rfl ?_
      refine J_if_lt 56 dX9_feed_20 (by decide) ?_ ?_
      · exact J_lv [0] rfl (hXt1 t1.2)
      · refine J_aload_n 0 0 113 dX9_feed_23 rfl rfl ?_
        refine J_getR 113 9 21 127 dX9_feed_24 fl_9_50 rfl rfl (Nat.lt_of_lt_of_le (Nat.le_of_ble_eq_true rfl) hn) rfl ?_
        refine J_aload_n 0 0 113 dX9_feed_27 rfl rfl ?_
        refine J_getI 113 9 22 dX9_feed_28 fl_9_109 rfl rfl (Nat.lt_of_lt_of_le (Nat.le_of_ble_eq_true rfl) hn) ?_
        refine J_lload_n 1 1 a1 dX9_feed_31 rfl rfl ?_
        refine J_iload_n 3 2 t1.1 dX9_feed_32 rfl rfl ?_
        refine J_lshr dX9_feed_33 ?_
        refine J_ldc2 255 dX9_feed_34 kl_9_112 ?_
        refine J_land dX9_feed_37 ?_
        refine J_l2i dX9_feed_38 ?_
        refine J_iast 127 400 dX9_feed_39 rfl (Nat.lt_of_lt_of_le (Nat.le_of_ble_eq_true rfl) hn) (fun m3 => ?_)
        refine J_aload_n 0 0 113 dX9_feed_40 rfl rfl ?_
        refine J_dup dX9_feed_41 rfl ?_
        refine J_getI 113 9 22 dX9_feed_42 fl_9_109 rfl rfl (Nat.lt_of_lt_of_le (Nat.le_of_ble_eq_true rfl) hn) ?_
        refine J_iconst 1 dX9_feed_45 (by decide) ?_
        refine J_iadd dX9_feed_46 ?_
        refine J_putI 113 9 22 dX9_feed_47 fl_9_109 rfl rfl (Nat.lt_of_lt_of_le (Nat.le_of_ble_eq_true rfl) hn) rfl rfl rfl (fun m4 => ?_)
        refine J_iinc 3 2 [(3, .int (t1.1 + (-8))), (0, .ref 113), (1, .long a1)] t1.1 (t1.1 + (-8)) dX9_feed_50 rfl rfl (by decide) rfl ?_
        refine J_goto 19 dX9_feed_53 (by decide) ?_
        exact J_lv [1, 2, 0] rfl (hBt1 (t1.1 + (-8), m4))
  · refine J_bipush (-3) dX9_feed_13 (by decide) ?_
    exact J_iretI dX9_feed_15 rfl rfl
def b_X9_firstDraft_22  (t5 : Int32 × Mm) : Option ((Int32 × Mm) ⊕ (Mm)) :=
  if (5 : Int32) ≤ t5.1 then (some (Sum.inr t5.2)) else ((if t5.1 = 0 then (some 1) else (if t5.1 = (1 : Int32) then (some 400) else (if t5.1 = (2 : Int32) then (some 40) else (if t5.1 = (3 : Int32) then (some 60) else (some 0)))) : Option (Int32)).bind fun y7 => (ast t5.2 125 5 t5.1 y7).bind fun m8 => (ast m8 126 5 t5.1 (vp_nar .boolean 0)).bind fun m9 => some (Sum.inl (t5.1 + 1, m9)))
def f_X9_firstDraft (F : Nat) (m : Mm) : Option (Mm) :=
  letv (up2 m 113 11 0) fun m1 => letv (up2 m1 113 13 0) fun m2 => letv (up2 m2 113 15 0) fun m3 => letv (up2 m3 113 17 0) fun m4 => (iter F b_X9_firstDraft_22 ((0, m4) : Int32 × Mm)).bind (fun e6 : Mm => some e6)
set_option maxHeartbeats 4000000 in
set_option maxRecDepth 100000 in
theorem ct_X9_firstDraft (F : Nat) {n : Nat} (hn : 135 ≤ n) (P D : Nat) (T : Option Nat) (m : Mm)  : Ct yX9_firstDraft cX9_firstDraft 2 none 0 0 [.ref 113] n n m (RF P D T) (rV (RF P D T) (f_X9_firstDraft F m)) := by
  refine Ct.ofV (own := RX9) (nm := "firstDraft") [(0, .ref 113)] (by decide) (Nat.le_of_ble_eq_true rfl) rfl rfl rfl ?_
  unfold f_X9_firstDraft
  refine J_aload_n 0 0 113 dX9_firstDraft_0 rfl rfl ?_
  refine J_iconst 0 dX9_firstDraft_1 (by decide) ?_
  refine J_putI 113 9 11 dX9_firstDraft_2 fl_9_80 rfl rfl (Nat.lt_of_lt_of_le (Nat.le_of_ble_eq_true rfl) hn) rfl rfl rfl (fun m1 => ?_)
  refine J_aload_n 0 0 113 dX9_firstDraft_5 rfl rfl ?_
  refine J_iconst 0 dX9_firstDraft_6 (by decide) ?_
  refine J_putI 113 9 13 dX9_firstDraft_7 fl_9_84 rfl rfl (Nat.lt_of_lt_of_le (Nat.le_of_ble_eq_true rfl) hn) rfl rfl rfl (fun m2 => ?_)
  refine J_aload_n 0 0 113 dX9_firstDraft_10 rfl rfl ?_
  refine J_iconst 0 dX9_firstDraft_11 (by decide) ?_
  refine J_putI 113 9 15 dX9_firstDraft_12 fl_9_87 rfl rfl (Nat.lt_of_lt_of_le (Nat.le_of_ble_eq_true rfl) hn) rfl rfl rfl (fun m3 => ?_)
  refine J_aload_n 0 0 113 dX9_firstDraft_15 rfl rfl ?_
  refine J_iconst 0 dX9_firstDraft_16 (by decide) ?_
  refine J_putI 113 9 17 dX9_firstDraft_17 fl_9_90 rfl rfl (Nat.lt_of_lt_of_le (Nat.le_of_ble_eq_true rfl) hn) rfl rfl rfl (fun m4 => ?_)
  refine J_iconst 0 dX9_firstDraft_20 (by decide) ?_
  refine J_istore_n 1 [(1, .int 0), (0, .ref 113)] dX9_firstDraft_21 rfl (by decide) rfl ?_
  refine J_lv [1, 0] rfl ?_
  refine J_loop (pc := 22) (fun t5 : Int32 × Mm => [(0, .ref 113), (1, .int t5.1)]) (fun t5 => t5.2) (fun _ => 86) (fun e6 => []) (fun _ => []) (fun e6 => e6) ?_ (fun t5 k1 hBt5 hXt5 => ?_) F ((0, m4))
  · refine fun e6 => ?_
    exact J_vretV dX9_firstDraft_86 rfl rfl
  · unfold b_X9_firstDraft_22
    refine J_iload_n 1 1 t5.1 dX9_firstDraft_22 rfl rfl ?_
    refine J_iconst 5 dX9_firstDraft_23 (by decide) ?_
    refine J_icmp_ge 86 dX9_firstDraft_24 (by decide) ?_ ?_
    · exact J_lv [] rfl (hXt5 t5.2)
    · refine J_aload_n 0 0 113 dX9_firstDraft_27 rfl rfl ?_
      refine J_getR 113 9 19 125 dX9_firstDraft_28 fl_9_44 rfl rfl (Nat.lt_of_lt_of_le (Nat.le_of_ble_eq_true rfl) hn) rfl ?_
      refine J_iload_n 1 1 t5.1 dX9_firstDraft_31 rfl rfl ?_
      refine J_iload_n 1 1 t5.1 dX9_firstDraft_32 rfl rfl ?_
      refine J_seqJ 72 (fun y7 : Int32 => [(0, .ref 113), (1, .int t5.1)]) (fun y7 => [.int y7, .int t5.1, .ref 125]) (fun y7 => t5.2) (fun y7 => ?_) (fun k1 hEy7 => ?_)
      · refine J_iast 125 5 dX9_firstDraft_72 rfl (Nat.lt_of_lt_of_le (Nat.le_of_ble_eq_true rfl) hn) (fun m8 => ?_)
        refine J_aload_n 0 0 113 dX9_firstDraft_73 rfl rfl ?_
        refine J_getR 113 9 20 126 dX9_firstDraft_74 fl_9_47 rfl rfl (Nat.lt_of_lt_of_le (Nat.le_of_ble_eq_true rfl) hn) rfl ?_
        refine J_iload_n 1 1 t5.1 dX9_firstDraft_77 rfl rfl ?_
        refine J_iconst 0 dX9_firstDraft_78 (by decide) ?_
        refine J_zast 126 5 dX9_firstDraft_79 rfl (Nat.lt_of_lt_of_le (Nat.le_of_ble_eq_true rfl) hn) (fun m9 => ?_)
        refine J_iinc 1 1 [(1, .int (t5.1 + 1)), (0, .ref 113)] t5.1 (t5.1 + 1) dX9_firstDraft_80 rfl rfl (by decide) rfl ?_
        refine J_goto 22 dX9_firstDraft_83 (by decide) ?_
        exact J_lv [1, 0] rfl (hBt5 (t5.1 + 1, m9))
      · refine J_if_ne 40 dX9_firstDraft_33 (by decide) ?_ ?_
        · refine J_iload_n 1 1 t5.1 dX9_firstDraft_40 rfl rfl ?_
          refine J_iconst 1 dX9_firstDraft_41 (by decide) ?_
          refine J_icmp_ne 51 dX9_firstDraft_42 (by decide) ?_ ?_
          · refine J_iload_n 1 1 t5.1 dX9_firstDraft_51 rfl rfl ?_
            refine J_iconst 2 dX9_firstDraft_52 (by decide) ?_
            refine J_icmp_ne 61 dX9_firstDraft_53 (by decide) ?_ ?_
            · refine J_iload_n 1 1 t5.1 dX9_firstDraft_61 rfl rfl ?_
              refine J_iconst 3 dX9_firstDraft_62 (by decide) ?_
              refine J_icmp_ne 71 dX9_firstDraft_63 (by decide) ?_ ?_
              · refine J_iconst 0 dX9_firstDraft_71 (by decide) ?_
                exact J_lv [0, 1] rfl (hEy7 0)
              · refine J_bipush 60 dX9_firstDraft_66 (by decide) ?_
                refine J_goto 72 dX9_firstDraft_68 (by decide) ?_
                exact J_lv [0, 1] rfl (hEy7 60)
            · refine J_bipush 40 dX9_firstDraft_56 (by decide) ?_
              refine J_goto 72 dX9_firstDraft_58 (by decide) ?_
              exact J_lv [0, 1] rfl (hEy7 40)
          · refine J_sipush 400 dX9_firstDraft_45 (by decide) ?_
            refine J_goto 72 dX9_firstDraft_48 (by decide) ?_
            exact J_lv [0, 1] rfl (hEy7 400)
        · refine J_iconst 1 dX9_firstDraft_36 (by decide) ?_
          refine J_goto 72 dX9_firstDraft_37 (by decide) ?_
          exact J_lv [0, 1] rfl (hEy7 1)

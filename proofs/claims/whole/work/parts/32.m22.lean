theorem fl_9_71 : FL RX9 71 9 40 := ⟨by decide, by decide, tb 1062 (by decide +kernel) rfl⟩
theorem lk_9_266 : Cond.methodLink RX9 266 yX9_isOrder ∈ TBg := tb 1334 (by decide +kernel) rfl
theorem lk_9_336 : Cond.methodLink RX9 336 yX9_areDoors ∈ TBg := tb 1453 (by decide +kernel) rfl
theorem lk_9_353 : Cond.methodLink RX9 353 yX9_fits ∈ TBg := tb 1486 (by decide +kernel) rfl
theorem lk_9_356 : Cond.methodLink RX9 356 yX9_isSheet ∈ TBg := tb 1494 (by decide +kernel) rfl
theorem mv_X9_areDoors : MV yX9_areDoors cX9_areDoors 2 (some .boolean) 1 := ⟨tb 1456 (by decide +kernel) rfl, tb 13 (by decide +kernel) rfl, by decide +kernel⟩
theorem mv_X9_areDoorsv : Cond.instanceMethod yX9_areDoors ∈ TBg ∧ Cond.selects yX9_areDoors.cls yX9_areDoors yX9_areDoors ∈ TBg := ⟨tb 1455 (by decide +kernel) rfl, tbP (k := 42) 91 (by decide +kernel) rfl⟩
theorem mv_X9_fits : MV yX9_fits cX9_fits 8 (some .boolean) 2 := ⟨tb 1489 (by decide +kernel) rfl, tb 13 (by decide +kernel) rfl, by decide +kernel⟩
theorem mv_X9_fitsv : Cond.instanceMethod yX9_fits ∈ TBg ∧ Cond.selects yX9_fits.cls yX9_fits yX9_fits ∈ TBg := ⟨tb 1488 (by decide +kernel) rfl, tbP (k := 42) 95 (by decide +kernel) rfl⟩
theorem mv_X9_isOrder : MV yX9_isOrder cX9_isOrder 6 (some .boolean) 4 := ⟨tb 1337 (by decide +kernel) rfl, tb 13 (by decide +kernel) rfl, by decide +kernel⟩
theorem mv_X9_isOrderv : Cond.instanceMethod yX9_isOrder ∈ TBg ∧ Cond.selects yX9_isOrder.cls yX9_isOrder yX9_isOrder ∈ TBg := ⟨tb 1336 (by decide +kernel) rfl, tbP (k := 42) 77 (by decide +kernel) rfl⟩
theorem mv_X9_isSheet : MV yX9_isSheet cX9_isSheet 2 (some .boolean) 2 := ⟨tb 1496 (by decide +kernel) rfl, tb 13 (by decide +kernel) rfl, by decide +kernel⟩
theorem mv_X9_isSheets : Cond.static yX9_isSheet ∈ TBg := tb 1495 (by decide +kernel) rfl
theorem dX9_lay_0 : decode cX9_lay 0 = .ok (.iload_n 1, 1) := by decide +kernel
theorem dX9_lay_1 : decode cX9_lay 1 = .ok (.iconst 0, 1) := by decide +kernel
theorem dX9_lay_2 : decode cX9_lay 2 = .ok (.invokestatic 356, 3) := by decide +kernel
theorem dX9_lay_5 : decode cX9_lay 5 = .ok (.ifCond .ne 5, 3) := by decide +kernel
theorem dX9_lay_8 : decode cX9_lay 8 = .ok (.iconst (-1), 1) := by decide +kernel
theorem dX9_lay_9 : decode cX9_lay 9 = .ok (.ireturn, 1) := by decide +kernel
theorem dX9_lay_10 : decode cX9_lay 10 = .ok (.aload_n 0, 1) := by decide +kernel
theorem dX9_lay_11 : decode cX9_lay 11 = .ok (.getfield 65, 3) := by decide +kernel
theorem dX9_lay_14 : decode cX9_lay 14 = .ok (.iload_n 1, 1) := by decide +kernel
theorem dX9_lay_15 : decode cX9_lay 15 = .ok (.iaload, 1) := by decide +kernel
theorem dX9_lay_16 : decode cX9_lay 16 = .ok (.bipush (-4), 2) := by decide +kernel
theorem dX9_lay_18 : decode cX9_lay 18 = .ok (.if_icmp .ne 6, 3) := by decide +kernel
theorem dX9_lay_21 : decode cX9_lay 21 = .ok (.bipush (-11), 2) := by decide +kernel
theorem dX9_lay_23 : decode cX9_lay 23 = .ok (.ireturn, 1) := by decide +kernel
theorem dX9_lay_24 : decode cX9_lay 24 = .ok (.iload_n 2, 1) := by decide +kernel
theorem dX9_lay_25 : decode cX9_lay 25 = .ok (.i2l, 1) := by decide +kernel
theorem dX9_lay_26 : decode cX9_lay 26 = .ok (.lconst 0, 1) := by decide +kernel
theorem dX9_lay_27 : decode cX9_lay 27 = .ok (.aload_n 0, 1) := by decide +kernel
theorem dX9_lay_28 : decode cX9_lay 28 = .ok (.getfield 68, 3) := by decide +kernel
theorem dX9_lay_31 : decode cX9_lay 31 = .ok (.iload_n 1, 1) := by decide +kernel
theorem dX9_lay_32 : decode cX9_lay 32 = .ok (.iaload, 1) := by decide +kernel
theorem dX9_lay_33 : decode cX9_lay 33 = .ok (.iconst 1, 1) := by decide +kernel
theorem dX9_lay_34 : decode cX9_lay 34 = .ok (.isub, 1) := by decide +kernel
theorem dX9_lay_35 : decode cX9_lay 35 = .ok (.i2l, 1) := by decide +kernel
theorem dX9_lay_36 : decode cX9_lay 36 = .ok (.invokestatic 114, 3) := by decide +kernel
theorem dX9_lay_39 : decode cX9_lay 39 = .ok (.ifCond .ne 6, 3) := by decide +kernel
theorem dX9_lay_42 : decode cX9_lay 42 = .ok (.bipush (-12), 2) := by decide +kernel
theorem dX9_lay_44 : decode cX9_lay 44 = .ok (.ireturn, 1) := by decide +kernel
theorem dX9_lay_45 : decode cX9_lay 45 = .ok (.aload_n 0, 1) := by decide +kernel
theorem dX9_lay_46 : decode cX9_lay 46 = .ok (.getfield 71, 3) := by decide +kernel
theorem dX9_lay_49 : decode cX9_lay 49 = .ok (.bipush 40, 2) := by decide +kernel
theorem dX9_lay_51 : decode cX9_lay 51 = .ok (.iload_n 1, 1) := by decide +kernel
theorem dX9_lay_52 : decode cX9_lay 52 = .ok (.imul, 1) := by decide +kernel
theorem dX9_lay_53 : decode cX9_lay 53 = .ok (.iload_n 2, 1) := by decide +kernel
theorem dX9_lay_54 : decode cX9_lay 54 = .ok (.iadd, 1) := by decide +kernel
theorem dX9_lay_55 : decode cX9_lay 55 = .ok (.aload_n 0, 1) := by decide +kernel
theorem dX9_lay_56 : decode cX9_lay 56 = .ok (.getfield 65, 3) := by decide +kernel
theorem dX9_lay_59 : decode cX9_lay 59 = .ok (.iload_n 1, 1) := by decide +kernel
theorem dX9_lay_60 : decode cX9_lay 60 = .ok (.iaload, 1) := by decide +kernel
theorem dX9_lay_61 : decode cX9_lay 61 = .ok (.ifCond .ne 8, 3) := by decide +kernel
theorem dX9_lay_64 : decode cX9_lay 64 = .ok (.iload_n 3, 1) := by decide +kernel
theorem dX9_lay_65 : decode cX9_lay 65 = .ok (.i2b, 1) := by decide +kernel
theorem dX9_lay_66 : decode cX9_lay 66 = .ok (.goto 19, 3) := by decide +kernel
theorem dX9_lay_69 : decode cX9_lay 69 = .ok (.aload_n 0, 1) := by decide +kernel
theorem dX9_lay_70 : decode cX9_lay 70 = .ok (.getfield 65, 3) := by decide +kernel
theorem dX9_lay_73 : decode cX9_lay 73 = .ok (.iload_n 1, 1) := by decide +kernel
theorem dX9_lay_74 : decode cX9_lay 74 = .ok (.iaload, 1) := by decide +kernel
theorem dX9_lay_75 : decode cX9_lay 75 = .ok (.iconst 1, 1) := by decide +kernel
theorem dX9_lay_76 : decode cX9_lay 76 = .ok (.if_icmp .ne 8, 3) := by decide +kernel
theorem dX9_lay_79 : decode cX9_lay 79 = .ok (.iload_n 3, 1) := by decide +kernel
theorem dX9_lay_80 : decode cX9_lay 80 = .ok (.i2s, 1) := by decide +kernel
theorem dX9_lay_81 : decode cX9_lay 81 = .ok (.goto 4, 3) := by decide +kernel
theorem dX9_lay_84 : decode cX9_lay 84 = .ok (.iload_n 3, 1) := by decide +kernel
theorem dX9_lay_85 : decode cX9_lay 85 = .ok (.iastore, 1) := by decide +kernel
theorem dX9_lay_86 : decode cX9_lay 86 = .ok (.iconst 1, 1) := by decide +kernel
theorem dX9_lay_87 : decode cX9_lay 87 = .ok (.ireturn, 1) := by decide +kernel
theorem dX9_men_0 : decode cX9_men 0 = .ok (.aload_n 0, 1) := by decide +kernel
theorem dX9_men_1 : decode cX9_men 1 = .ok (.iload_n 1, 1) := by decide +kernel
theorem dX9_men_2 : decode cX9_men 2 = .ok (.invokevirtual 336, 3) := by decide +kernel
theorem dX9_men_5 : decode cX9_men 5 = .ok (.ifCond .ne 5, 3) := by decide +kernel
theorem dX9_men_8 : decode cX9_men 8 = .ok (.iconst (-1), 1) := by decide +kernel
theorem dX9_men_9 : decode cX9_men 9 = .ok (.ireturn, 1) := by decide +kernel
theorem dX9_men_10 : decode cX9_men 10 = .ok (.iconst 1, 1) := by decide +kernel
theorem dX9_men_11 : decode cX9_men 11 = .ok (.aload_n 0, 1) := by decide +kernel
theorem dX9_men_12 : decode cX9_men 12 = .ok (.getfield 93, 3) := by decide +kernel
theorem dX9_men_15 : decode cX9_men 15 = .ok (.ishl, 1) := by decide +kernel
theorem dX9_men_16 : decode cX9_men 16 = .ok (.iconst 1, 1) := by decide +kernel
theorem dX9_men_17 : decode cX9_men 17 = .ok (.isub, 1) := by decide +kernel
theorem dX9_men_18 : decode cX9_men 18 = .ok (.aload_n 0, 1) := by decide +kernel
theorem dX9_men_19 : decode cX9_men 19 = .ok (.iconst 1, 1) := by decide +kernel
theorem dX9_men_20 : decode cX9_men 20 = .ok (.aload_n 0, 1) := by decide +kernel
theorem dX9_men_21 : decode cX9_men 21 = .ok (.getfield 29, 3) := by decide +kernel
theorem dX9_men_24 : decode cX9_men 24 = .ok (.iconst 4, 1) := by decide +kernel
theorem dX9_men_25 : decode cX9_men 25 = .ok (.iaload, 1) := by decide +kernel
theorem dX9_men_26 : decode cX9_men 26 = .ok (.ishl, 1) := by decide +kernel
theorem dX9_men_27 : decode cX9_men 27 = .ok (.aload_n 0, 1) := by decide +kernel
theorem dX9_men_28 : decode cX9_men 28 = .ok (.invokevirtual 339, 3) := by decide +kernel
theorem dX9_men_31 : decode cX9_men 31 = .ok (.iload_n 1, 1) := by decide +kernel
theorem dX9_men_32 : decode cX9_men 32 = .ok (.iconst (-1), 1) := by decide +kernel
theorem dX9_men_33 : decode cX9_men 33 = .ok (.ixor, 1) := by decide +kernel
theorem dX9_men_34 : decode cX9_men 34 = .ok (.iand, 1) := by decide +kernel
theorem dX9_men_35 : decode cX9_men 35 = .ok (.invokevirtual 342, 3) := by decide +kernel
theorem dX9_men_38 : decode cX9_men 38 = .ok (.iconst (-1), 1) := by decide +kernel
theorem dX9_men_39 : decode cX9_men 39 = .ok (.ixor, 1) := by decide +kernel
theorem dX9_men_40 : decode cX9_men 40 = .ok (.iand, 1) := by decide +kernel
theorem dX9_men_41 : decode cX9_men 41 = .ok (.ireturn, 1) := by decide +kernel
theorem dX9_most_0 : decode cX9_most 0 = .ok (.iload_n 1, 1) := by decide +kernel
theorem dX9_most_1 : decode cX9_most 1 = .ok (.i2l, 1) := by decide +kernel
theorem dX9_most_2 : decode cX9_most 2 = .ok (.lconst 0, 1) := by decide +kernel
theorem dX9_most_3 : decode cX9_most 3 = .ok (.lconst 1, 1) := by decide +kernel
theorem dX9_most_4 : decode cX9_most 4 = .ok (.invokestatic 114, 3) := by decide +kernel
theorem dX9_most_7 : decode cX9_most 7 = .ok (.ifCond .ne 5, 3) := by decide +kernel
theorem dX9_most_10 : decode cX9_most 10 = .ok (.iconst (-1), 1) := by decide +kernel
theorem dX9_most_11 : decode cX9_most 11 = .ok (.ireturn, 1) := by decide +kernel
theorem dX9_most_12 : decode cX9_most 12 = .ok (.bipush (-4), 2) := by decide +kernel
theorem dX9_most_14 : decode cX9_most 14 = .ok (.istore_n 2, 1) := by decide +kernel
theorem dX9_most_15 : decode cX9_most 15 = .ok (.iconst 0, 1) := by decide +kernel
theorem dX9_most_16 : decode cX9_most 16 = .ok (.istore_n 3, 1) := by decide +kernel
theorem dX9_most_17 : decode cX9_most 17 = .ok (.iload_n 3, 1) := by decide +kernel
theorem dX9_most_18 : decode cX9_most 18 = .ok (.iconst 1, 1) := by decide +kernel
theorem dX9_most_19 : decode cX9_most 19 = .ok (.aload_n 0, 1) := by decide +kernel
theorem dX9_most_20 : decode cX9_most 20 = .ok (.getfield 93, 3) := by decide +kernel
theorem dX9_most_23 : decode cX9_most 23 = .ok (.ishl, 1) := by decide +kernel
theorem dX9_most_24 : decode cX9_most 24 = .ok (.if_icmp .ge 52, 3) := by decide +kernel
theorem dX9_most_27 : decode cX9_most 27 = .ok (.iload_n 2, 1) := by decide +kernel
theorem dX9_most_28 : decode cX9_most 28 = .ok (.bipush (-4), 2) := by decide +kernel
theorem dX9_most_30 : decode cX9_most 30 = .ok (.if_icmp .eq 14, 3) := by decide +kernel
theorem dX9_most_33 : decode cX9_most 33 = .ok (.iload_n 3, 1) := by decide +kernel
theorem dX9_most_34 : decode cX9_most 34 = .ok (.invokestatic 331, 3) := by decide +kernel
theorem dX9_most_37 : decode cX9_most 37 = .ok (.iload_n 2, 1) := by decide +kernel
theorem dX9_most_38 : decode cX9_most 38 = .ok (.invokestatic 331, 3) := by decide +kernel
theorem dX9_most_41 : decode cX9_most 41 = .ok (.if_icmp .le 15, 3) := by decide +kernel
theorem dX9_most_44 : decode cX9_most 44 = .ok (.aload_n 0, 1) := by decide +kernel
theorem dX9_most_45 : decode cX9_most 45 = .ok (.iload_n 3, 1) := by decide +kernel
theorem dX9_most_46 : decode cX9_most 46 = .ok (.invokevirtual 328, 3) := by decide +kernel
theorem dX9_most_49 : decode cX9_most 49 = .ok (.ifCond .eq 7, 3) := by decide +kernel
theorem dX9_most_52 : decode cX9_most 52 = .ok (.iconst 1, 1) := by decide +kernel
theorem dX9_most_53 : decode cX9_most 53 = .ok (.goto 4, 3) := by decide +kernel
theorem dX9_most_56 : decode cX9_most 56 = .ok (.iconst 0, 1) := by decide +kernel
theorem dX9_most_57 : decode cX9_most 57 = .ok (.istore 4, 2) := by decide +kernel
theorem dX9_most_59 : decode cX9_most 59 = .ok (.iload 4, 2) := by decide +kernel
theorem dX9_most_61 : decode cX9_most 61 = .ok (.ifCond .eq 7, 3) := by decide +kernel
theorem dX9_most_64 : decode cX9_most 64 = .ok (.iload_n 3, 1) := by decide +kernel
theorem dX9_most_65 : decode cX9_most 65 = .ok (.goto 4, 3) := by decide +kernel
theorem dX9_most_68 : decode cX9_most 68 = .ok (.iload_n 2, 1) := by decide +kernel
theorem dX9_most_69 : decode cX9_most 69 = .ok (.istore_n 2, 1) := by decide +kernel
theorem dX9_most_70 : decode cX9_most 70 = .ok (.iinc 3 1, 3) := by decide +kernel
theorem dX9_most_73 : decode cX9_most 73 = .ok (.goto (-56), 3) := by decide +kernel
theorem dX9_most_76 : decode cX9_most 76 = .ok (.iload_n 2, 1) := by decide +kernel
theorem dX9_most_77 : decode cX9_most 77 = .ok (.bipush (-4), 2) := by decide +kernel
theorem dX9_most_79 : decode cX9_most 79 = .ok (.if_icmp .ne 8, 3) := by decide +kernel
theorem dX9_most_82 : decode cX9_most 82 = .ok (.bipush (-4), 2) := by decide +kernel
theorem dX9_most_84 : decode cX9_most 84 = .ok (.goto 15, 3) := by decide +kernel
theorem dX9_most_87 : decode cX9_most 87 = .ok (.iload_n 1, 1) := by decide +kernel
theorem dX9_most_88 : decode cX9_most 88 = .ok (.ifCond .ne 10, 3) := by decide +kernel
theorem dX9_most_91 : decode cX9_most 91 = .ok (.iload_n 2, 1) := by decide +kernel
theorem dX9_most_92 : decode cX9_most 92 = .ok (.invokestatic 331, 3) := by decide +kernel
theorem dX9_most_95 : decode cX9_most 95 = .ok (.goto 4, 3) := by decide +kernel
theorem dX9_most_98 : decode cX9_most 98 = .ok (.iload_n 2, 1) := by decide +kernel
theorem dX9_most_99 : decode cX9_most 99 = .ok (.ireturn, 1) := by decide +kernel
theorem dX9_now_0 : decode cX9_now 0 = .ok (.iload_n 1, 1) := by decide +kernel
theorem dX9_now_1 : decode cX9_now 1 = .ok (.tableswitch 105 0 7 #[47, 55, 61, 67, 73, 81, 89, 97], 47) := by decide +kernel
theorem dX9_now_48 : decode cX9_now 48 = .ok (.aload_n 0, 1) := by decide +kernel
theorem dX9_now_49 : decode cX9_now 49 = .ok (.getfield 7, 3) := by decide +kernel
theorem dX9_now_52 : decode cX9_now 52 = .ok (.bipush 71, 2) := by decide +kernel
theorem dX9_now_54 : decode cX9_now 54 = .ok (.iaload, 1) := by decide +kernel
theorem dX9_now_55 : decode cX9_now 55 = .ok (.ireturn, 1) := by decide +kernel
theorem dX9_now_56 : decode cX9_now 56 = .ok (.aload_n 0, 1) := by decide +kernel
theorem dX9_now_57 : decode cX9_now 57 = .ok (.iconst 0, 1) := by decide +kernel
theorem dX9_now_58 : decode cX9_now 58 = .ok (.invokevirtual 202, 3) := by decide +kernel
theorem dX9_now_61 : decode cX9_now 61 = .ok (.ireturn, 1) := by decide +kernel
theorem dX9_now_62 : decode cX9_now 62 = .ok (.aload_n 0, 1) := by decide +kernel
theorem dX9_now_63 : decode cX9_now 63 = .ok (.iconst 0, 1) := by decide +kernel
theorem dX9_now_64 : decode cX9_now 64 = .ok (.invokevirtual 205, 3) := by decide +kernel
theorem dX9_now_67 : decode cX9_now 67 = .ok (.ireturn, 1) := by decide +kernel
theorem dX9_now_68 : decode cX9_now 68 = .ok (.aload_n 0, 1) := by decide +kernel
theorem dX9_now_69 : decode cX9_now 69 = .ok (.iconst 0, 1) := by decide +kernel
theorem dX9_now_70 : decode cX9_now 70 = .ok (.invokevirtual 208, 3) := by decide +kernel
theorem dX9_now_73 : decode cX9_now 73 = .ok (.ireturn, 1) := by decide +kernel
theorem dX9_now_74 : decode cX9_now 74 = .ok (.aload_n 0, 1) := by decide +kernel
theorem dX9_now_75 : decode cX9_now 75 = .ok (.getfield 7, 3) := by decide +kernel
theorem dX9_now_78 : decode cX9_now 78 = .ok (.bipush 72, 2) := by decide +kernel
theorem dX9_now_80 : decode cX9_now 80 = .ok (.iaload, 1) := by decide +kernel
theorem dX9_now_81 : decode cX9_now 81 = .ok (.ireturn, 1) := by decide +kernel
theorem dX9_now_82 : decode cX9_now 82 = .ok (.aload_n 0, 1) := by decide +kernel
theorem dX9_now_83 : decode cX9_now 83 = .ok (.getfield 7, 3) := by decide +kernel
theorem dX9_now_86 : decode cX9_now 86 = .ok (.bipush 73, 2) := by decide +kernel
theorem dX9_now_88 : decode cX9_now 88 = .ok (.iaload, 1) := by decide +kernel
theorem dX9_now_89 : decode cX9_now 89 = .ok (.ireturn, 1) := by decide +kernel
theorem dX9_now_90 : decode cX9_now 90 = .ok (.aload_n 0, 1) := by decide +kernel
theorem dX9_now_91 : decode cX9_now 91 = .ok (.getfield 7, 3) := by decide +kernel
theorem dX9_now_94 : decode cX9_now 94 = .ok (.bipush 74, 2) := by decide +kernel
theorem dX9_now_96 : decode cX9_now 96 = .ok (.iaload, 1) := by decide +kernel
theorem dX9_now_97 : decode cX9_now 97 = .ok (.ireturn, 1) := by decide +kernel
theorem dX9_now_98 : decode cX9_now 98 = .ok (.aload_n 0, 1) := by decide +kernel
theorem dX9_now_99 : decode cX9_now 99 = .ok (.getfield 7, 3) := by decide +kernel
theorem dX9_now_102 : decode cX9_now 102 = .ok (.bipush 75, 2) := by decide +kernel
theorem dX9_now_104 : decode cX9_now 104 = .ok (.iaload, 1) := by decide +kernel
theorem dX9_now_105 : decode cX9_now 105 = .ok (.ireturn, 1) := by decide +kernel
theorem dX9_now_106 : decode cX9_now 106 = .ok (.iconst (-1), 1) := by decide +kernel
theorem dX9_now_107 : decode cX9_now 107 = .ok (.ireturn, 1) := by decide +kernel
theorem dX9_order_0 : decode cX9_order 0 = .ok (.aload_n 0, 1) := by decide +kernel
theorem dX9_order_1 : decode cX9_order 1 = .ok (.iload_n 1, 1) := by decide +kernel
theorem dX9_order_2 : decode cX9_order 2 = .ok (.i2l, 1) := by decide +kernel
theorem dX9_order_3 : decode cX9_order 3 = .ok (.iload_n 2, 1) := by decide +kernel
theorem dX9_order_4 : decode cX9_order 4 = .ok (.iload_n 3, 1) := by decide +kernel
theorem dX9_order_5 : decode cX9_order 5 = .ok (.iload 4, 2) := by decide +kernel
theorem dX9_order_7 : decode cX9_order 7 = .ok (.invokevirtual 266, 3) := by decide +kernel
theorem dX9_order_10 : decode cX9_order 10 = .ok (.ifCond .ne 5, 3) := by decide +kernel
theorem dX9_order_13 : decode cX9_order 13 = .ok (.iconst (-1), 1) := by decide +kernel
theorem dX9_order_14 : decode cX9_order 14 = .ok (.ireturn, 1) := by decide +kernel
theorem dX9_order_15 : decode cX9_order 15 = .ok (.aload_n 0, 1) := by decide +kernel
theorem dX9_order_16 : decode cX9_order 16 = .ok (.getfield 7, 3) := by decide +kernel
theorem dX9_order_19 : decode cX9_order 19 = .ok (.bipush 76, 2) := by decide +kernel
theorem dX9_order_21 : decode cX9_order 21 = .ok (.iaload, 1) := by decide +kernel
theorem dX9_order_22 : decode cX9_order 22 = .ok (.bipush 12, 2) := by decide +kernel
theorem dX9_order_24 : decode cX9_order 24 = .ok (.if_icmp .ne 6, 3) := by decide +kernel
theorem dX9_order_27 : decode cX9_order 27 = .ok (.bipush (-3), 2) := by decide +kernel
theorem dX9_order_29 : decode cX9_order 29 = .ok (.ireturn, 1) := by decide +kernel
theorem dX9_order_30 : decode cX9_order 30 = .ok (.aload_n 0, 1) := by decide +kernel
theorem dX9_order_31 : decode cX9_order 31 = .ok (.iconst 0, 1) := by decide +kernel
theorem dX9_order_32 : decode cX9_order 32 = .ok (.iload_n 1, 1) := by decide +kernel
theorem dX9_order_33 : decode cX9_order 33 = .ok (.iload_n 2, 1) := by decide +kernel
theorem dX9_order_34 : decode cX9_order 34 = .ok (.iload_n 3, 1) := by decide +kernel
theorem dX9_order_35 : decode cX9_order 35 = .ok (.iload 4, 2) := by decide +kernel
theorem dX9_order_37 : decode cX9_order 37 = .ok (.invokevirtual 270, 3) := by decide +kernel
theorem dX9_order_40 : decode cX9_order 40 = .ok (.aload_n 0, 1) := by decide +kernel
theorem dX9_order_41 : decode cX9_order 41 = .ok (.getfield 7, 3) := by decide +kernel
theorem dX9_order_44 : decode cX9_order 44 = .ok (.bipush 76, 2) := by decide +kernel
theorem dX9_order_46 : decode cX9_order 46 = .ok (.iaload, 1) := by decide +kernel
theorem dX9_order_47 : decode cX9_order 47 = .ok (.iconst 1, 1) := by decide +kernel
theorem dX9_order_48 : decode cX9_order 48 = .ok (.isub, 1) := by decide +kernel
theorem dX9_order_49 : decode cX9_order 49 = .ok (.ireturn, 1) := by decide +kernel
theorem dX9_pump_0 : decode cX9_pump 0 = .ok (.iload_n 1, 1) := by decide +kernel
theorem dX9_pump_1 : decode cX9_pump 1 = .ok (.i2l, 1) := by decide +kernel
theorem dX9_pump_2 : decode cX9_pump 2 = .ok (.lconst 0, 1) := by decide +kernel
theorem dX9_pump_3 : decode cX9_pump 3 = .ok (.aload_n 0, 1) := by decide +kernel
theorem dX9_pump_4 : decode cX9_pump 4 = .ok (.getfield 102, 3) := by decide +kernel
theorem dX9_pump_7 : decode cX9_pump 7 = .ok (.iconst 1, 1) := by decide +kernel
theorem dX9_pump_8 : decode cX9_pump 8 = .ok (.isub, 1) := by decide +kernel
theorem dX9_pump_9 : decode cX9_pump 9 = .ok (.i2l, 1) := by decide +kernel
theorem dX9_pump_10 : decode cX9_pump 10 = .ok (.invokestatic 114, 3) := by decide +kernel
theorem dX9_pump_13 : decode cX9_pump 13 = .ok (.ifCond .eq 13, 3) := by decide +kernel
theorem dX9_pump_16 : decode cX9_pump 16 = .ok (.iload_n 2, 1) := by decide +kernel
theorem dX9_pump_17 : decode cX9_pump 17 = .ok (.i2l, 1) := by decide +kernel
theorem dX9_pump_18 : decode cX9_pump 18 = .ok (.lconst 0, 1) := by decide +kernel
theorem dX9_pump_19 : decode cX9_pump 19 = .ok (.lconst 1, 1) := by decide +kernel
theorem dX9_pump_20 : decode cX9_pump 20 = .ok (.invokestatic 114, 3) := by decide +kernel
theorem dX9_pump_23 : decode cX9_pump 23 = .ok (.ifCond .ne 7, 3) := by decide +kernel
theorem dX9_pump_26 : decode cX9_pump 26 = .ok (.iconst (-1), 1) := by decide +kernel
theorem dX9_pump_27 : decode cX9_pump 27 = .ok (.goto 27, 3) := by decide +kernel
theorem dX9_pump_30 : decode cX9_pump 30 = .ok (.iload_n 2, 1) := by decide +kernel
theorem dX9_pump_31 : decode cX9_pump 31 = .ok (.ifCond .ne 14, 3) := by decide +kernel
theorem dX9_pump_34 : decode cX9_pump 34 = .ok (.aload_n 0, 1) := by decide +kernel
theorem dX9_pump_35 : decode cX9_pump 35 = .ok (.getfield 26, 3) := by decide +kernel
theorem dX9_pump_38 : decode cX9_pump 38 = .ok (.iconst 2, 1) := by decide +kernel
theorem dX9_pump_39 : decode cX9_pump 39 = .ok (.iload_n 1, 1) := by decide +kernel
theorem dX9_pump_40 : decode cX9_pump 40 = .ok (.imul, 1) := by decide +kernel
theorem dX9_pump_41 : decode cX9_pump 41 = .ok (.iaload, 1) := by decide +kernel
theorem dX9_pump_42 : decode cX9_pump 42 = .ok (.goto 12, 3) := by decide +kernel
theorem dX9_pump_45 : decode cX9_pump 45 = .ok (.aload_n 0, 1) := by decide +kernel
theorem dX9_pump_46 : decode cX9_pump 46 = .ok (.getfield 7, 3) := by decide +kernel
theorem dX9_pump_49 : decode cX9_pump 49 = .ok (.bipush 44, 2) := by decide +kernel
theorem dX9_pump_51 : decode cX9_pump 51 = .ok (.iload_n 1, 1) := by decide +kernel
theorem dX9_pump_52 : decode cX9_pump 52 = .ok (.iadd, 1) := by decide +kernel
theorem dX9_pump_53 : decode cX9_pump 53 = .ok (.iaload, 1) := by decide +kernel
theorem dX9_pump_54 : decode cX9_pump 54 = .ok (.ireturn, 1) := by decide +kernel
theorem dX9_put_0 : decode cX9_put 0 = .ok (.aload_n 0, 1) := by decide +kernel
theorem dX9_put_1 : decode cX9_put 1 = .ok (.iload_n 1, 1) := by decide +kernel
theorem dX9_put_2 : decode cX9_put 2 = .ok (.invokevirtual 220, 3) := by decide +kernel
theorem dX9_put_5 : decode cX9_put 5 = .ok (.ifCond .eq 21, 3) := by decide +kernel
theorem dX9_put_8 : decode cX9_put 8 = .ok (.iload_n 2, 1) := by decide +kernel
theorem dX9_put_9 : decode cX9_put 9 = .ok (.i2l, 1) := by decide +kernel
theorem dX9_put_10 : decode cX9_put 10 = .ok (.lconst 0, 1) := by decide +kernel
theorem dX9_put_11 : decode cX9_put 11 = .ok (.aload_n 0, 1) := by decide +kernel
theorem dX9_put_12 : decode cX9_put 12 = .ok (.getfield 17, 3) := by decide +kernel
theorem dX9_put_15 : decode cX9_put 15 = .ok (.iconst 4, 1) := by decide +kernel
theorem dX9_put_16 : decode cX9_put 16 = .ok (.iload_n 1, 1) := by decide +kernel
theorem dX9_put_17 : decode cX9_put 17 = .ok (.imul, 1) := by decide +kernel
theorem dX9_put_18 : decode cX9_put 18 = .ok (.iaload, 1) := by decide +kernel
theorem dX9_put_19 : decode cX9_put 19 = .ok (.i2l, 1) := by decide +kernel
theorem dX9_put_20 : decode cX9_put 20 = .ok (.invokestatic 114, 3) := by decide +kernel
theorem dX9_put_23 : decode cX9_put 23 = .ok (.ifCond .ne 5, 3) := by decide +kernel
theorem dX9_put_26 : decode cX9_put 26 = .ok (.iconst (-1), 1) := by decide +kernel
theorem dX9_put_27 : decode cX9_put 27 = .ok (.ireturn, 1) := by decide +kernel
theorem dX9_put_28 : decode cX9_put 28 = .ok (.aload_n 0, 1) := by decide +kernel
theorem dX9_put_29 : decode cX9_put 29 = .ok (.getfield 7, 3) := by decide +kernel
theorem dX9_put_32 : decode cX9_put 32 = .ok (.bipush 72, 2) := by decide +kernel
theorem dX9_put_34 : decode cX9_put 34 = .ok (.iaload, 1) := by decide +kernel
theorem dX9_put_35 : decode cX9_put 35 = .ok (.ifCond .le 6, 3) := by decide +kernel
theorem dX9_put_38 : decode cX9_put 38 = .ok (.bipush (-2), 2) := by decide +kernel
theorem dX9_put_40 : decode cX9_put 40 = .ok (.ireturn, 1) := by decide +kernel
theorem dX9_put_41 : decode cX9_put 41 = .ok (.aload_n 0, 1) := by decide +kernel
theorem dX9_put_42 : decode cX9_put 42 = .ok (.getfield 7, 3) := by decide +kernel
theorem dX9_put_45 : decode cX9_put 45 = .ok (.iconst 0, 1) := by decide +kernel
theorem dX9_put_46 : decode cX9_put 46 = .ok (.iload_n 1, 1) := by decide +kernel
theorem dX9_put_47 : decode cX9_put 47 = .ok (.iadd, 1) := by decide +kernel
theorem dX9_put_48 : decode cX9_put 48 = .ok (.iaload, 1) := by decide +kernel
theorem dX9_put_49 : decode cX9_put 49 = .ok (.istore_n 3, 1) := by decide +kernel
theorem dX9_put_50 : decode cX9_put 50 = .ok (.aload_n 0, 1) := by decide +kernel
theorem dX9_put_51 : decode cX9_put 51 = .ok (.getfield 7, 3) := by decide +kernel
theorem dX9_put_54 : decode cX9_put 54 = .ok (.iconst 0, 1) := by decide +kernel
theorem dX9_put_55 : decode cX9_put 55 = .ok (.iload_n 1, 1) := by decide +kernel
theorem dX9_put_56 : decode cX9_put 56 = .ok (.iadd, 1) := by decide +kernel
theorem dX9_put_57 : decode cX9_put 57 = .ok (.iload_n 2, 1) := by decide +kernel
theorem dX9_put_58 : decode cX9_put 58 = .ok (.iastore, 1) := by decide +kernel
theorem dX9_put_59 : decode cX9_put 59 = .ok (.aload_n 0, 1) := by decide +kernel
theorem dX9_put_60 : decode cX9_put 60 = .ok (.iconst 0, 1) := by decide +kernel
theorem dX9_put_61 : decode cX9_put 61 = .ok (.invokevirtual 105, 3) := by decide +kernel
theorem dX9_put_64 : decode cX9_put 64 = .ok (.iload_n 3, 1) := by decide +kernel
theorem dX9_put_65 : decode cX9_put 65 = .ok (.ireturn, 1) := by decide +kernel
theorem dX9_rates_0 : decode cX9_rates 0 = .ok (.aload_n 0, 1) := by decide +kernel
theorem dX9_rates_1 : decode cX9_rates 1 = .ok (.iload_n 1, 1) := by decide +kernel
theorem dX9_rates_2 : decode cX9_rates 2 = .ok (.invokevirtual 220, 3) := by decide +kernel
theorem dX9_rates_5 : decode cX9_rates 5 = .ok (.ifCond .ne 5, 3) := by decide +kernel
theorem dX9_rates_8 : decode cX9_rates 8 = .ok (.iconst (-1), 1) := by decide +kernel
theorem dX9_rates_9 : decode cX9_rates 9 = .ok (.ireturn, 1) := by decide +kernel
theorem dX9_rates_10 : decode cX9_rates 10 = .ok (.iconst 0, 1) := by decide +kernel
theorem dX9_rates_11 : decode cX9_rates 11 = .ok (.istore_n 2, 1) := by decide +kernel
theorem dX9_rates_12 : decode cX9_rates 12 = .ok (.iload_n 2, 1) := by decide +kernel
theorem dX9_rates_13 : decode cX9_rates 13 = .ok (.aload_n 0, 1) := by decide +kernel
theorem dX9_rates_14 : decode cX9_rates 14 = .ok (.getfield 350, 3) := by decide +kernel
theorem dX9_rates_17 : decode cX9_rates 17 = .ok (.if_icmp .ge 28, 3) := by decide +kernel
theorem dX9_rates_20 : decode cX9_rates 20 = .ok (.aload_n 0, 1) := by decide +kernel
theorem dX9_rates_21 : decode cX9_rates 21 = .ok (.getfield 62, 3) := by decide +kernel
theorem dX9_rates_24 : decode cX9_rates 24 = .ok (.iload_n 2, 1) := by decide +kernel
theorem dX9_rates_25 : decode cX9_rates 25 = .ok (.iaload, 1) := by decide +kernel
theorem dX9_rates_26 : decode cX9_rates 26 = .ok (.aload_n 0, 1) := by decide +kernel
theorem dX9_rates_27 : decode cX9_rates 27 = .ok (.getfield 17, 3) := by decide +kernel
theorem dX9_rates_30 : decode cX9_rates 30 = .ok (.iconst 4, 1) := by decide +kernel
theorem dX9_rates_31 : decode cX9_rates 31 = .ok (.iload_n 1, 1) := by decide +kernel
theorem dX9_rates_32 : decode cX9_rates 32 = .ok (.imul, 1) := by decide +kernel
theorem dX9_rates_33 : decode cX9_rates 33 = .ok (.iaload, 1) := by decide +kernel
theorem dX9_rates_34 : decode cX9_rates 34 = .ok (.if_icmp .le 5, 3) := by decide +kernel
theorem dX9_rates_37 : decode cX9_rates 37 = .ok (.iconst (-1), 1) := by decide +kernel
theorem dX9_rates_38 : decode cX9_rates 38 = .ok (.ireturn, 1) := by decide +kernel
theorem dX9_rates_39 : decode cX9_rates 39 = .ok (.iinc 2 1, 3) := by decide +kernel
theorem dX9_rates_42 : decode cX9_rates 42 = .ok (.goto (-30), 3) := by decide +kernel
theorem dX9_rates_45 : decode cX9_rates 45 = .ok (.iconst 0, 1) := by decide +kernel
theorem dX9_rates_46 : decode cX9_rates 46 = .ok (.istore_n 2, 1) := by decide +kernel
theorem dX9_rates_47 : decode cX9_rates 47 = .ok (.iconst 1, 1) := by decide +kernel
theorem dX9_rates_48 : decode cX9_rates 48 = .ok (.istore_n 3, 1) := by decide +kernel
theorem dX9_rates_49 : decode cX9_rates 49 = .ok (.iload_n 3, 1) := by decide +kernel
theorem dX9_rates_50 : decode cX9_rates 50 = .ok (.bipush 21, 2) := by decide +kernel
theorem dX9_rates_52 : decode cX9_rates 52 = .ok (.if_icmp .ge 28, 3) := by decide +kernel
theorem dX9_rates_55 : decode cX9_rates 55 = .ok (.iload_n 2, 1) := by decide +kernel
theorem dX9_rates_56 : decode cX9_rates 56 = .ok (.aload_n 0, 1) := by decide +kernel
theorem dX9_rates_57 : decode cX9_rates 57 = .ok (.iload_n 1, 1) := by decide +kernel
theorem dX9_rates_58 : decode cX9_rates 58 = .ok (.iload_n 3, 1) := by decide +kernel
theorem dX9_rates_59 : decode cX9_rates 59 = .ok (.invokevirtual 353, 3) := by decide +kernel
theorem dX9_rates_62 : decode cX9_rates 62 = .ok (.ifCond .eq 9, 3) := by decide +kernel
theorem dX9_rates_65 : decode cX9_rates 65 = .ok (.iconst 1, 1) := by decide +kernel
theorem dX9_rates_66 : decode cX9_rates 66 = .ok (.iload_n 3, 1) := by decide +kernel
theorem dX9_rates_67 : decode cX9_rates 67 = .ok (.ishl, 1) := by decide +kernel
theorem dX9_rates_68 : decode cX9_rates 68 = .ok (.goto 4, 3) := by decide +kernel
theorem dX9_rates_71 : decode cX9_rates 71 = .ok (.iconst 0, 1) := by decide +kernel
theorem dX9_rates_72 : decode cX9_rates 72 = .ok (.ior, 1) := by decide +kernel
theorem dX9_rates_73 : decode cX9_rates 73 = .ok (.istore_n 2, 1) := by decide +kernel
theorem dX9_rates_74 : decode cX9_rates 74 = .ok (.iinc 3 1, 3) := by decide +kernel
theorem dX9_rates_77 : decode cX9_rates 77 = .ok (.goto (-28), 3) := by decide +kernel
theorem dX9_rates_80 : decode cX9_rates 80 = .ok (.iload_n 2, 1) := by decide +kernel
theorem dX9_rates_81 : decode cX9_rates 81 = .ok (.ireturn, 1) := by decide +kernel
def f_X9_lay (m : Mm) (a1 : Int32) (a2 : Int32) (a3 : Int32) : Option (Int32 × Mm) :=
  (f_X9_isSheet a1 0).bind fun x1 => if x1 = 0 then (some ((-1), m)) else ((ald m 132 4 a1).bind fun x3 => if x3 = ((-4) : Int32) then (some ((-11), m)) else ((ald m 133 4 a1).bind fun x4 => (f_X9_in a2.toInt64 0 ((x4 - (1 : Int32)).toInt64)).bind fun x5 => if x5 = 0 then (some ((-12), m)) else ((ald m 132 4 a1).bind fun x7 => (if x7 = 0 then (some a3.toInt8.toInt32) else ((ald m 132 4 a1).bind fun x9 => if x9 = (1 : Int32) then (some a3.toInt16.toInt32) else (some a3)) : Option (Int32)).bind fun y8 => (ast m 134 160 (((40 : Int32) * a1) + a2) y8).bind fun m10 => some (1, m10))))
set_option maxHeartbeats 4000000 in
set_option maxRecDepth 100000 in
theorem ct_X9_lay (F : Nat) {n : Nat} (hn : 135 ≤ n) (P D : Nat) (T : Option Nat) (m : Mm) (a1 : Int32) (a2 : Int32) (a3 : Int32) : Ct yX9_lay cX9_lay 4 (some .int) 2 46 [.ref 113, .int a1, .int a2, .int a3] n n m (RF P D T) (rI (RF P D T) (f_X9_lay m a1 a2 a3)) := by
  refine Ct.ofI (own := RX9) (nm := "lay") [(0, .ref 113), (1, .int a1), (2, .int a2), (3, .int a3)] (by decide) (Nat.le_of_ble_eq_true rfl) rfl rfl rfl ?_
  unfold f_X9_lay
  refine J_iload_n 1 1 a1 dX9_lay_0 rfl rfl ?_
  refine J_iconst 0 dX9_lay_1 (by decide) ?_
  refine J_callSP 2 [.int a1, .int 0] dX9_lay_2 mv_X9_isSheet mv_X9_isSheets lk_9_356 (ct_X9_isSheet F hn P D T m a1 0) rfl ⟨by decide, by decide⟩ (Nat.le_of_ble_eq_true rfl) (fun x1 => ?_)
  refine J_if_ne 10 dX9_lay_5 (by decide) ?_ ?_
  · refine J_aload_n 0 0 113 dX9_lay_10 rfl rfl ?_
    refine J_getR 113 9 38 132 dX9_lay_11 fl_9_65 rfl rfl (Nat.lt_of_lt_of_le (Nat.le_of_ble_eq_true rfl) hn) rfl ?_
    refine J_iload_n 1 1 a1 dX9_lay_14 rfl rfl ?_
    refine J_iald 132 4 dX9_lay_15 rfl (Nat.lt_of_lt_of_le (Nat.le_of_ble_eq_true rfl) hn) (fun x3 => ?_)
    refine J_bipush (-4) dX9_lay_16 (by decide) ?_
    refine J_icmp_ne 24 dX9_lay_18 (by decide) ?_ ?_
    · refine J_iload_n 2 2 a2 dX9_lay_24 rfl rfl ?_
      refine J_i2l dX9_lay_25 ?_
      refine J_lconst 0 dX9_lay_26 (by decide) ?_
      refine J_aload_n 0 0 113 dX9_lay_27 rfl rfl ?_
      refine J_getR 113 9 39 133 dX9_lay_28 fl_9_68 rfl rfl (Nat.lt_of_lt_of_le (Nat.le_of_ble_eq_true rfl) hn) rfl ?_
      refine J_iload_n 1 1 a1 dX9_lay_31 rfl rfl ?_
      refine J_iald 133 4 dX9_lay_32 rfl (Nat.lt_of_lt_of_le (Nat.le_of_ble_eq_true rfl) hn) (fun x4 => ?_)
      refine J_iconst 1 dX9_lay_33 (by decide) ?_
      refine J_isub dX9_lay_34 ?_
      refine J_i2l dX9_lay_35 ?_
      refine J_callSP 3 [.long a2.toInt64, .long 0, .long ((x4 - (1 : Int32)).toInt64)] dX9_lay_36 mv_X9_in mv_X9_ins lk_9_114 (ct_X9_in F hn P D T m a2.toInt64 0 ((x4 - (1 : Int32)).toInt64)) rfl ⟨by decide, by decide⟩ (Nat.le_of_ble_eq_true rfl) (fun x5 => ?_)
      refine J_if_ne 45 dX9_lay_39 (by decide) ?_ ?_
      · refine J_aload_n 0 0 113 dX9_lay_45 rfl rfl ?_
        refine J_getR 113 9 40 134 dX9_lay_46 fl_9_71 rfl rfl (Nat.lt_of_lt_of_le (Nat.le_of_ble_eq_true rfl) hn) rfl ?_
        refine J_bipush 40 dX9_lay_49 (by decide) ?_
        refine J_iload_n 1 1 a1 dX9_lay_51 rfl rfl ?_
        refine J_imul dX9_lay_52 ?_
        refine J_iload_n 2 2 a2 dX9_lay_53 rfl rfl ?_
        refine J_iadd dX9_lay_54 ?_
        refine J_aload_n 0 0 113 dX9_lay_55 rfl rfl ?_
        refine J_getR 113 9 38 132 dX9_lay_56 fl_9_65 rfl rfl (Nat.lt_of_lt_of_le (Nat.le_of_ble_eq_true rfl) hn) rfl ?_
        refine J_iload_n 1 1 a1 dX9_lay_59 rfl rfl ?_
        refine J_iald 132 4 dX9_lay_60 rfl (Nat.lt_of_lt_of_le (Nat.le_of_ble_eq_true rfl) hn) (fun x7 => ?_)
        refine J_seqJ 85 (fun y8 : Int32 => []) (fun y8 => [.int y8, .int (((40 : Int32) * a1) + a2), .ref 134]) (fun y8 => m) (fun y8 => ?_) (fun k1 hEy8 => ?_)
        · refine J_iast 134 160 dX9_lay_85 rfl (Nat.lt_of_lt_of_le (Nat.le_of_ble_eq_true rfl) hn) (fun m10 => ?_)
          refine J_iconst 1 dX9_lay_86 (by decide) ?_
          exact J_iretI dX9_lay_87 rfl rfl
        · refine J_if_ne 69 dX9_lay_61 (by decide) ?_ ?_
          · refine J_aload_n 0 0 113 dX9_lay_69 rfl rfl ?_
            refine J_getR 113 9 38 132 dX9_lay_70 fl_9_65 rfl rfl (Nat.lt_of_lt_of_le (Nat.le_of_ble_eq_true rfl) hn) rfl ?_
            refine J_iload_n 1 1 a1 dX9_lay_73 rfl rfl ?_
            refine J_iald 132 4 dX9_lay_74 rfl (Nat.lt_of_lt_of_le (Nat.le_of_ble_eq_true rfl) hn) (fun x9 => ?_)
            refine J_iconst 1 dX9_lay_75 (by decide) ?_
            refine J_icmp_ne 84 dX9_lay_76 (by decide) ?_ ?_
            · refine J_iload_n 3 3 a3 dX9_lay_84 rfl rfl ?_
              exact J_lv [] rfl (hEy8 a3)
            · refine J_iload_n 3 3 a3 dX9_lay_79 rfl rfl ?_
              refine J_i2s dX9_lay_80 ?_
              refine J_goto 85 dX9_lay_81 (by decide) ?_
              exact J_lv [] rfl (hEy8 a3.toInt16.toInt32)
          · refine J_iload_n 3 3 a3 dX9_lay_64 rfl rfl ?_
            refine J_i2b dX9_lay_65 ?_
            refine J_goto 85 dX9_lay_66 (by decide) ?_
            exact J_lv [] rfl (hEy8 a3.toInt8.toInt32)
      · refine J_bipush (-12) dX9_lay_42 (by decide) ?_
        exact J_iretI dX9_lay_44 rfl rfl
    · refine J_bipush (-11) dX9_lay_21 (by decide) ?_
      exact J_iretI dX9_lay_23 rfl rfl
  · refine J_iconst (-1) dX9_lay_8 (by decide) ?_
    exact J_iretI dX9_lay_9 rfl rfl
def f_X9_men (F : Nat) (m : Mm) (a1 : Int32) : Option (Int32) :=
  (f_X9_areDoors m a1).bind fun x1 => if x1 = 0 then (some (-1)) else ((ald m 120 5 4).bind fun x3 => (f_X9_openDoors F m).bind fun x4 => (f_X9_reach F m ((1 : Int32) <<< (x3 &&& 31)) (x4 &&& (a1 ^^^ ((-1) : Int32)))).bind fun x6 => some ((((1 : Int32) <<< ((m 113 2) &&& 31)) - (1 : Int32)) &&& (x6 ^^^ ((-1) : Int32))))
set_option maxHeartbeats 4000000 in
set_option maxRecDepth 100000 in
theorem ct_X9_men (F : Nat) {n : Nat} (hn : 135 ≤ n) (P D : Nat) (T : Option Nat) (m : Mm) (a1 : Int32) : Ct yX9_men cX9_men 2 (some .int) 2 46 [.ref 113, .int a1] n n m (RF P D T) (rP m (RF P D T) (f_X9_men F m a1)) := by
  refine Ct.ofP (own := RX9) (nm := "men") [(0, .ref 113), (1, .int a1)] (by decide) (Nat.le_of_ble_eq_true rfl) rfl rfl rfl ?_
  unfold f_X9_men
  refine J_aload_n 0 0 113 dX9_men_0 rfl rfl ?_
  refine J_iload_n 1 1 a1 dX9_men_1 rfl rfl ?_
  refine J_callVP 113 9 1 [.int a1] dX9_men_2 mv_X9_areDoors mv_X9_areDoorsv lk_9_336 (ct_X9_areDoors F hn P D T m a1) rfl rfl (by decide) rfl (Nat.lt_of_lt_of_le (Nat.le_of_ble_eq_true rfl) hn) ⟨by decide, by decide⟩ (Nat.le_of_ble_eq_true rfl) (fun x1 => ?_)
  refine J_if_ne 10 dX9_men_5 (by decide) ?_ ?_
  · refine J_iconst 1 dX9_men_10 (by decide) ?_
    refine J_aload_n 0 0 113 dX9_men_11 rfl rfl ?_
    refine J_getI 113 9 2 dX9_men_12 fl_9_93 rfl rfl (Nat.lt_of_lt_of_le (Nat.le_of_ble_eq_true rfl) hn) ?_
    refine J_ishl dX9_men_15 ?_
    refine J_iconst 1 dX9_men_16 (by decide) ?_
    refine J_isub dX9_men_17 ?_
    refine J_aload_n 0 0 113 dX9_men_18 rfl rfl ?_
    refine J_iconst 1 dX9_men_19 (by decide) ?_
    refine J_aload_n 0 0 113 dX9_men_20 rfl rfl ?_
    refine J_getR 113 9 10 120 dX9_men_21 fl_9_29 rfl rfl (Nat.lt_of_lt_of_le (Nat.le_of_ble_eq_true rfl) hn) rfl ?_
    refine J_iconst 4 dX9_men_24 (by decide) ?_
    refine J_iald 120 5 dX9_men_25 rfl (Nat.lt_of_lt_of_le (Nat.le_of_ble_eq_true rfl) hn) (fun x3 => ?_)
    refine J_ishl dX9_men_26 ?_
    refine J_aload_n 0 0 113 dX9_men_27 rfl rfl ?_
    refine J_callVP 113 9 0 [] dX9_men_28 mv_X9_openDoors mv_X9_openDoorsv lk_9_339 (ct_X9_openDoors F hn P D T m) rfl rfl (by decide) rfl (Nat.lt_of_lt_of_le (Nat.le_of_ble_eq_true rfl) hn) ⟨by decide, by decide⟩ (Nat.le_of_ble_eq_true rfl) (fun x4 => ?_)
    refine J_iload_n 1 1 a1 dX9_men_31 rfl rfl ?_
    refine J_iconst (-1) dX9_men_32 (by decide) ?_
    refine J_ixor dX9_men_33 ?_
    refine J_iand dX9_men_34 ?_
    refine J_callVP 113 9 2 [.int ((1 : Int32) <<< (x3 &&& 31)), .int (x4 &&& (a1 ^^^ ((-1) : Int32)))] dX9_men_35 mv_X9_reach mv_X9_reachv lk_9_342 (ct_X9_reach F hn P D T m ((1 : Int32) <<< (x3 &&& 31)) (x4 &&& (a1 ^^^ ((-1) : Int32)))) rfl rfl (by decide) rfl (Nat.lt_of_lt_of_le (Nat.le_of_ble_eq_true rfl) hn) ⟨by decide, by decide⟩ (Nat.le_of_ble_eq_true rfl) (fun x6 => ?_)
    refine J_iconst (-1) dX9_men_38 (by decide) ?_
    refine J_ixor dX9_men_39 ?_
    refine J_iand dX9_men_40 ?_
    exact J_iretP dX9_men_41 rfl rfl
  · refine J_iconst (-1) dX9_men_8 (by decide) ?_
    exact J_iretP dX9_men_9 rfl rfl
def b_X9_most_17 (F : Nat) (t3 : Int32 × Int32 × Mm) : Option ((Int32 × Int32 × Mm) ⊕ (Int32 × Mm)) :=
  if ((1 : Int32) <<< ((t3.2.2 113 2) &&& 31)) ≤ t3.2.1 then (some (Sum.inr ((t3.1, t3.2.2)))) else ((if t3.1 = ((-4) : Int32) then (bind2 (f_X9_floatsWith F t3.2.2 t3.2.1) fun x6 m7 => if x6 = 0 then (some (0, m7)) else (some (1, m7))) else ((f_X9_countOf F t3.2.1).bind fun x8 => (f_X9_countOf F t3.1).bind fun x10 => if x8 ≤ x10 then (some (0, t3.2.2)) else (bind2 (f_X9_floatsWith F t3.2.2 t3.2.1) fun x12 m13 => if x12 = 0 then (some (0, m13)) else (some (1, m13)))) : Option (Int32 × Mm)).bind fun y5 => (if y5.1 = 0 then (some t3.1) else (some t3.2.1) : Option (Int32)).bind fun y14 => some (Sum.inl (y14, t3.2.1 + 1, y5.2)))
def f_X9_most (F : Nat) (m : Mm) (a1 : Int32) : Option (Int32 × Mm) :=
  (f_X9_in a1.toInt64 0 1).bind fun x1 => if x1 = 0 then (some ((-1), m)) else ((iter F (b_X9_most_17 F) (((-4), 0, m) : Int32 × Int32 × Mm)).bind (fun e4 : Int32 × Mm => if e4.1 = ((-4) : Int32) then (some ((-4), e4.2)) else (if a1 = 0 then ((f_X9_countOf F e4.1).bind fun x15 => some (x15, e4.2)) else (some (e4.1, e4.2)))))
set_option maxHeartbeats 4000000 in
set_option maxRecDepth 100000 in
theorem ct_X9_most (F : Nat) {n : Nat} (hn : 135 ≤ n) (P D : Nat) (T : Option Nat) (m : Mm) (a1 : Int32) : Ct yX9_most cX9_most 5 (some .int) 4 86 [.ref 113, .int a1] n n m (RF P D T) (rI (RF P D T) (f_X9_most F m a1)) := by
  refine Ct.ofI (own := RX9) (nm := "most") [(0, .ref 113), (1, .int a1)] (by decide) (Nat.le_of_ble_eq_true rfl) rfl rfl rfl ?_
  unfold f_X9_most
  refine J_iload_n 1 1 a1 dX9_most_0 rfl rfl ?_
  refine J_i2l dX9_most_1 ?_
  refine J_lconst 0 dX9_most_2 (by decide) ?_
  refine J_lconst 1 dX9_most_3 (by decide) ?_
  refine J_callSP 3 [.long a1.toInt64, .long 0, .long 1] dX9_most_4 mv_X9_in mv_X9_ins lk_9_114 (ct_X9_in F hn P D T m a1.toInt64 0 1) rfl ⟨by decide, by decide⟩ (Nat.le_of_ble_eq_true rfl) (fun x1 => ?_)
  refine J_if_ne 12 dX9_most_7 (by decide) ?_ ?_
  · refine J_bipush (-4) dX9_most_12 (by decide) ?_
    refine J_istore_n 2 [(2, .int (-4)), (0, .ref 113), (1, .int a1)] dX9_most_14 rfl (by decide) rfl ?_
    refine J_iconst 0 dX9_most_15 (by decide) ?_
    refine J_istore_n 3 [(3, .int 0), (2, .int (-4)), (0, .ref 113), (1, .int a1)] dX9_most_16 rfl (by decide) rfl ?_
    refine J_lv [2, 3, 1, 0] rfl ?_
    refine J_loop (pc := 17) (fun t3 : Int32 × Int32 × Mm => [(0, .ref 113), (1, .int a1), (2, .int t3.1), (3, .int t3.2.1)]) (fun t3 => t3.2.2) (fun _ => 76) (fun e4 => [(1, .int a1), (2, .int e4.1)]) (fun _ => []) (fun e4 => e4.2) ?_ (fun t3 k1 hBt3 hXt3 => ?_) F (((-4), 0, m))
    · refine fun e4 => ?_
      refine J_iload_n 2 1 e4.1 dX9_most_76 rfl rfl ?_
      refine J_bipush (-4) dX9_most_77 (by decide) ?_
      refine J_icmp_ne 87 dX9_most_79 (by decide) ?_ ?_
      · refine J_iload_n 1 0 a1 dX9_most_87 rfl rfl ?_
        refine J_if_ne 98 dX9_most_88 (by decide) ?_ ?_
        · refine J_iload_n 2 1 e4.1 dX9_most_98 rfl rfl ?_
          exact J_iretI dX9_most_99 rfl rfl
        · refine J_iload_n 2 1 e4.1 dX9_most_91 rfl rfl ?_
          refine J_callSP 1 [.int e4.1] dX9_most_92 mv_X9_countOf mv_X9_countOfs lk_9_331 (ct_X9_countOf F hn P D T e4.2 e4.1) rfl ⟨by decide, by decide⟩ (Nat.le_of_ble_eq_true rfl) (fun x15 => ?_)
          refine J_goto 99 dX9_most_95 (by decide) ?_
          exact J_iretI dX9_most_99 rfl rfl
      · refine J_bipush (-4) dX9_most_82 (by decide) ?_
        refine J_goto 99 dX9_most_84 (by decide) ?_
        exact J_iretI dX9_most_99 rfl rfl
    · unfold b_X9_most_17
      refine J_iload_n 3 3 t3.2.1 dX9_most_17 rfl rfl ?_
      refine J_iconst 1 dX9_most_18 (by decide) ?_
      refine J_aload_n 0 0 113 dX9_most_19 rfl rfl ?_
      refine J_getI 113 9 2 dX9_most_20 fl_9_93 rfl rfl (Nat.lt_of_lt_of_le (Nat.le_of_ble_eq_true rfl) hn) ?_
      refine J_ishl dX9_most_23 ?_
      refine J_icmp_ge 76 dX9_most_24 (by decide) ?_ ?_
      · exact J_lv [1, 2] rfl (hXt3 ((t3.1, t3.2.2)))
      · refine J_iload_n 2 2 t3.1 dX9_most_27 rfl rfl ?_
        refine J_bipush (-4) dX9_most_28 (by decide) ?_
        refine J_seqJ 57 (fun y5 : Int32 × Mm => [(0, .ref 113), (1, .int a1), (2, .int t3.1), (3, .int t3.2.1)]) (fun y5 => [.int y5.1]) (fun y5 => y5.2) (fun y5 => ?_) (fun k1 hEy5 => ?_)
        · refine J_istore 4 [(4, .int y5.1), (0, .ref 113), (1, .int a1), (2, .int t3.1), (3, .int t3.2.1)] dX9_most_57 (by decide) rfl ?_
          refine J_iload 4 0 y5.1 dX9_most_59 rfl ?_
          refine J_seqJ 69 (fun y14 : Int32 => [(0, .ref 113), (1, .int a1), (3, .int t3.2.1)]) (fun y14 => [.int y14]) (fun y14 => y5.2) (fun y14 => ?_) (fun k1 hEy14 => ?_)
          · refine J_istore_n 2 [(2, .int y14), (0, .ref 113), (1, .int a1), (3, .int t3.2.1)] dX9_most_69 rfl (by decide) rfl ?_
            refine J_iinc 3 3 [(3, .int (t3.2.1 + 1)), (2, .int y14), (0, .ref 113), (1, .int a1)] t3.2.1 (t3.2.1 + 1) dX9_most_70 rfl rfl (by decide) rfl ?_
            refine J_goto 17 dX9_most_73 (by decide) ?_
            exact J_lv [2, 3, 1, 0] rfl (hBt3 (y14, t3.2.1 + 1, y5.2))
          · refine J_if_eq 68 dX9_most_61 (by decide) ?_ ?_
            · refine J_iload_n 2 3 t3.1 dX9_most_68 rfl rfl ?_
              exact J_lv [1, 2, 4] rfl (hEy14 t3.1)
            · refine J_iload_n 3 4 t3.2.1 dX9_most_64 rfl rfl ?_
              refine J_goto 69 dX9_most_65 (by decide) ?_
              exact J_lv [1, 2, 4] rfl (hEy14 t3.2.1)
        · refine J_icmp_eq 44 dX9_most_30 (by decide) ?_ ?_
          · refine J_aload_n 0 0 113 dX9_most_44 rfl rfl ?_
            refine J_iload_n 3 3 t3.2.1 dX9_most_45 rfl rfl ?_
            refine J_callVI 113 9 1 [.int t3.2.1] dX9_most_46 mv_X9_floatsWith mv_X9_floatsWithv lk_9_328 (ct_X9_floatsWith F hn P D T t3.2.2 t3.2.1) rfl rfl (by decide) rfl (Nat.lt_of_lt_of_le (Nat.le_of_ble_eq_true rfl) hn) ⟨by decide, by decide⟩ (Nat.le_of_ble_eq_true rfl) (fun x6 m7 => ?_)
            refine J_if_eq 56 dX9_most_49 (by decide) ?_ ?_
            · refine J_iconst 0 dX9_most_56 (by decide) ?_
              exact J_lv [0, 1, 2, 3] rfl (hEy5 (0, m7))
            · refine J_iconst 1 dX9_most_52 (by decide) ?_
              refine J_goto 57 dX9_most_53 (by decide) ?_
              exact J_lv [0, 1, 2, 3] rfl (hEy5 (1, m7))
          · refine J_iload_n 3 3 t3.2.1 dX9_most_33 rfl rfl ?_
            refine J_callSP 1 [.int t3.2.1] dX9_most_34 mv_X9_countOf mv_X9_countOfs lk_9_331 (ct_X9_countOf F hn P D T t3.2.2 t3.2.1) rfl ⟨by decide, by decide⟩ (Nat.le_of_ble_eq_true rfl) (fun x8 => ?_)
            refine J_iload_n 2 2 t3.1 dX9_most_37 rfl rfl ?_
            refine J_callSP 1 [.int t3.1] dX9_most_38 mv_X9_countOf mv_X9_countOfs lk_9_331 (ct_X9_countOf F hn P D T t3.2.2 t3.1) rfl ⟨by decide, by decide⟩ (Nat.le_of_ble_eq_true rfl) (fun x10 => ?_)
            refine J_icmp_le 56 dX9_most_41 (by decide) ?_ ?_
            · refine J_iconst 0 dX9_most_56 (by decide) ?_
              exact J_lv [0, 1, 2, 3] rfl (hEy5 (0, t3.2.2))
            · refine J_aload_n 0 0 113 dX9_most_44 rfl rfl ?_
              refine J_iload_n 3 3 t3.2.1 dX9_most_45 rfl rfl ?_
              refine J_callVI 113 9 1 [.int t3.2.1] dX9_most_46 mv_X9_floatsWith mv_X9_floatsWithv lk_9_328 (ct_X9_floatsWith F hn P D T t3.2.2 t3.2.1) rfl rfl (by decide) rfl (Nat.lt_of_lt_of_le (Nat.le_of_ble_eq_true rfl) hn) ⟨by decide, by decide⟩ (Nat.le_of_ble_eq_true rfl) (fun x12 m13 => ?_)
              refine J_if_eq 56 dX9_most_49 (by decide) ?_ ?_
              · refine J_iconst 0 dX9_most_56 (by decide) ?_
                exact J_lv [0, 1, 2, 3] rfl (hEy5 (0, m13))
              · refine J_iconst 1 dX9_most_52 (by decide) ?_
                refine J_goto 57 dX9_most_53 (by decide) ?_
                exact J_lv [0, 1, 2, 3] rfl (hEy5 (1, m13))
  · refine J_iconst (-1) dX9_most_10 (by decide) ?_
    exact J_iretI dX9_most_11 rfl rfl
def f_X9_now (F : Nat) (m : Mm) (a1 : Int32) : Option (Int32) :=
  if a1 = 0 then ((ald m 114 512 71).bind fun x1 => some x1) else (if a1 = 1 then ((f_X9_allOf F m 0).bind fun x2 => some x2) else (if a1 = 2 then ((f_X9_listOf F m 0).bind fun x4 => some x4) else (if a1 = 3 then ((f_X9_trimOf F m 0).bind fun x6 => some x6) else (if a1 = 4 then ((ald m 114 512 72).bind fun x8 => some x8) else (if a1 = 5 then ((ald m 114 512 73).bind fun x9 => some x9) else (if a1 = 6 then ((ald m 114 512 74).bind fun x10 => some x10) else (if a1 = 7 then ((ald m 114 512 75).bind fun x11 => some x11) else (some (-1)))))))))
set_option maxHeartbeats 4000000 in
set_option maxRecDepth 100000 in
theorem ct_X9_now (F : Nat) {n : Nat} (hn : 135 ≤ n) (P D : Nat) (T : Option Nat) (m : Mm) (a1 : Int32) : Ct yX9_now cX9_now 2 (some .int) 2 43 [.ref 113, .int a1] n n m (RF P D T) (rP m (RF P D T) (f_X9_now F m a1)) := by
  refine Ct.ofP (own := RX9) (nm := "now") [(0, .ref 113), (1, .int a1)] (by decide) (Nat.le_of_ble_eq_true rfl) rfl rfl rfl ?_
  unfold f_X9_now
  refine J_iload_n 1 1 a1 dX9_now_0 rfl rfl ?_
  refine J_split (c1 := 0) (fun hs1_0 => ?_) (fun hs1_0 => ?_)
  · refine J_tsIn 48 hs1_0 dX9_now_1 (by decide) (by decide) rfl (by decide) ?_
    refine J_aload_n 0 0 113 dX9_now_48 rfl rfl ?_
    refine J_getR 113 9 0 114 dX9_now_49 fl_9_7 rfl rfl (Nat.lt_of_lt_of_le (Nat.le_of_ble_eq_true rfl) hn) rfl ?_
    refine J_bipush 71 dX9_now_52 (by decide) ?_
    refine J_iald 114 512 dX9_now_54 rfl (Nat.lt_of_lt_of_le (Nat.le_of_ble_eq_true rfl) hn) (fun x1 => ?_)
    exact J_iretP dX9_now_55 rfl rfl
  · refine J_split (c1 := 1) (fun hs1_1 => ?_) (fun hs1_1 => ?_)
    · refine J_tsIn 56 hs1_1 dX9_now_1 (by decide) (by decide) rfl (by decide) ?_
      refine J_aload_n 0 0 113 dX9_now_56 rfl rfl ?_
      refine J_iconst 0 dX9_now_57 (by decide) ?_
      refine J_callVP 113 9 1 [.int 0] dX9_now_58 mv_X9_allOf mv_X9_allOfv lk_9_202 (ct_X9_allOf F hn P D T m 0) rfl rfl (by decide) rfl (Nat.lt_of_lt_of_le (Nat.le_of_ble_eq_true rfl) hn) ⟨by decide, by decide⟩ (Nat.le_of_ble_eq_true rfl) (fun x2 => ?_)
      exact J_iretP dX9_now_61 rfl rfl
    · refine J_split (c1 := 2) (fun hs1_2 => ?_) (fun hs1_2 => ?_)
      · refine J_tsIn 62 hs1_2 dX9_now_1 (by decide) (by decide) rfl (by decide) ?_
        refine J_aload_n 0 0 113 dX9_now_62 rfl rfl ?_
        refine J_iconst 0 dX9_now_63 (by decide) ?_
        refine J_callVP 113 9 1 [.int 0] dX9_now_64 mv_X9_listOf mv_X9_listOfv lk_9_205 (ct_X9_listOf F hn P D T m 0) rfl rfl (by decide) rfl (Nat.lt_of_lt_of_le (Nat.le_of_ble_eq_true rfl) hn) ⟨by decide, by decide⟩ (Nat.le_of_ble_eq_true rfl) (fun x4 => ?_)
        exact J_iretP dX9_now_67 rfl rfl
      · refine J_split (c1 := 3) (fun hs1_3 => ?_) (fun hs1_3 => ?_)
        · refine J_tsIn 68 hs1_3 dX9_now_1 (by decide) (by decide) rfl (by decide) ?_
          refine J_aload_n 0 0 113 dX9_now_68 rfl rfl ?_
          refine J_iconst 0 dX9_now_69 (by decide) ?_
          refine J_callVP 113 9 1 [.int 0] dX9_now_70 mv_X9_trimOf mv_X9_trimOfv lk_9_208 (ct_X9_trimOf F hn P D T m 0) rfl rfl (by decide) rfl (Nat.lt_of_lt_of_le (Nat.le_of_ble_eq_true rfl) hn) ⟨by decide, by decide⟩ (Nat.le_of_ble_eq_true rfl) (fun x6 => ?_)
          exact J_iretP dX9_now_73 rfl rfl
        · refine J_split (c1 := 4) (fun hs1_4 => ?_) (fun hs1_4 => ?_)
          · refine J_tsIn 74 hs1_4 dX9_now_1 (by decide) (by decide) rfl (by decide) ?_
            refine J_aload_n 0 0 113 dX9_now_74 rfl rfl ?_
            refine J_getR 113 9 0 114 dX9_now_75 fl_9_7 rfl rfl (Nat.lt_of_lt_of_le (Nat.le_of_ble_eq_true rfl) hn) rfl ?_
            refine J_bipush 72 dX9_now_78 (by decide) ?_
            refine J_iald 114 512 dX9_now_80 rfl (Nat.lt_of_lt_of_le (Nat.le_of_ble_eq_true rfl) hn) (fun x8 => ?_)
            exact J_iretP dX9_now_81 rfl rfl
          · refine J_split (c1 := 5) (fun hs1_5 => ?_) (fun hs1_5 => ?_)
            · refine J_tsIn 82 hs1_5 dX9_now_1 (by decide) (by decide) rfl (by decide) ?_
              refine J_aload_n 0 0 113 dX9_now_82 rfl rfl ?_
              refine J_getR 113 9 0 114 dX9_now_83 fl_9_7 rfl rfl (Nat.lt_of_lt_of_le (Nat.le_of_ble_eq_true rfl) hn) rfl ?_
              refine J_bipush 73 dX9_now_86 (by decide) ?_
              refine J_iald 114 512 dX9_now_88 rfl (Nat.lt_of_lt_of_le (Nat.le_of_ble_eq_true rfl) hn) (fun x9 => ?_)
              exact J_iretP dX9_now_89 rfl rfl
            · refine J_split (c1 := 6) (fun hs1_6 => ?_) (fun hs1_6 => ?_)
              · refine J_tsIn 90 hs1_6 dX9_now_1 (by decide) (by decide) rfl (by decide) ?_
                refine J_aload_n 0 0 113 dX9_now_90 rfl rfl ?_
                refine J_getR 113 9 0 114 dX9_now_91 fl_9_7 rfl rfl (Nat.lt_of_lt_of_le (Nat.le_of_ble_eq_true rfl) hn) rfl ?_
                refine J_bipush 74 dX9_now_94 (by decide) ?_
                refine J_iald 114 512 dX9_now_96 rfl (Nat.lt_of_lt_of_le (Nat.le_of_ble_eq_true rfl) hn) (fun x10 => ?_)
                exact J_iretP dX9_now_97 rfl rfl
              · refine J_split (c1 := 7) (fun hs1_7 => ?_) (fun hs1_7 => ?_)
                · refine J_tsIn 98 hs1_7 dX9_now_1 (by decide) (by decide) rfl (by decide) ?_
                  refine J_aload_n 0 0 113 dX9_now_98 rfl rfl ?_
                  refine J_getR 113 9 0 114 dX9_now_99 fl_9_7 rfl rfl (Nat.lt_of_lt_of_le (Nat.le_of_ble_eq_true rfl) hn) rfl ?_
                  refine J_bipush 75 dX9_now_102 (by decide) ?_
                  refine J_iald 114 512 dX9_now_104 rfl (Nat.lt_of_lt_of_le (Nat.le_of_ble_eq_true rfl) hn) (fun x11 => ?_)
                  exact J_iretP dX9_now_105 rfl rfl
                · refine J_tsOut 106 dX9_now_1 (ts_out [0, 1, 2, 3, 4, 5, 6, 7] (by decide) (by simp only [List.mem_cons, List.not_mem_nil, or_false, forall_eq_or_imp, forall_eq]; exact ⟨hs1_0, hs1_1, hs1_2, hs1_3, hs1_4, hs1_5, hs1_6, hs1_7⟩)) (by decide) ?_
                  refine J_iconst (-1) dX9_now_106 (by decide) ?_
                  exact J_iretP dX9_now_107 rfl rfl
def f_X9_order (m : Mm) (a1 : Int32) (a2 : Int32) (a3 : Int32) (a4 : Int32) : Option (Int32 × Mm) :=
  (f_X9_isOrder m a1.toInt64 a2 a3 a4).bind fun x1 => if x1 = 0 then (some ((-1), m)) else ((ald m 114 512 76).bind fun x3 => if x3 = (12 : Int32) then (some ((-3), m)) else ((f_X9_tells m 0 a1 a2 a3 a4).bind fun m5 => (ald m5 114 512 76).bind fun x6 => some (x6 - (1 : Int32), m5)))
set_option maxHeartbeats 4000000 in
set_option maxRecDepth 100000 in
theorem ct_X9_order (F : Nat) {n : Nat} (hn : 135 ≤ n) (P D : Nat) (T : Option Nat) (m : Mm) (a1 : Int32) (a2 : Int32) (a3 : Int32) (a4 : Int32) : Ct yX9_order cX9_order 5 (some .int) 3 71 [.ref 113, .int a1, .int a2, .int a3, .int a4] n n m (RF P D T) (rI (RF P D T) (f_X9_order m a1 a2 a3 a4)) := by
  refine Ct.ofI (own := RX9) (nm := "order") [(0, .ref 113), (1, .int a1), (2, .int a2), (3, .int a3), (4, .int a4)] (by decide) (Nat.le_of_ble_eq_true rfl) rfl rfl rfl ?_
  unfold f_X9_order
  refine J_aload_n 0 0 113 dX9_order_0 rfl rfl ?_
  refine J_iload_n 1 1 a1 dX9_order_1 rfl rfl ?_
  refine J_i2l dX9_order_2 ?_
  refine J_iload_n 2 2 a2 dX9_order_3 rfl rfl ?_
  refine J_iload_n 3 3 a3 dX9_order_4 rfl rfl ?_
  refine J_iload 4 4 a4 dX9_order_5 rfl ?_
  refine J_callVP 113 9 4 [.long a1.toInt64, .int a2, .int a3, .int a4] dX9_order_7 mv_X9_isOrder mv_X9_isOrderv lk_9_266 (ct_X9_isOrder F hn P D T m a1.toInt64 a2 a3 a4) rfl rfl (by decide) rfl (Nat.lt_of_lt_of_le (Nat.le_of_ble_eq_true rfl) hn) ⟨by decide, by decide⟩ (Nat.le_of_ble_eq_true rfl) (fun x1 => ?_)
  refine J_if_ne 15 dX9_order_10 (by decide) ?_ ?_
  · refine J_aload_n 0 0 113 dX9_order_15 rfl rfl ?_
    refine J_getR 113 9 0 114 dX9_order_16 fl_9_7 rfl rfl (Nat.lt_of_lt_of_le (Nat.le_of_ble_eq_true rfl) hn) rfl ?_
    refine J_bipush 76 dX9_order_19 (by decide) ?_
    refine J_iald 114 512 dX9_order_21 rfl (Nat.lt_of_lt_of_le (Nat.le_of_ble_eq_true rfl) hn) (fun x3 => ?_)
    refine J_bipush 12 dX9_order_22 (by decide) ?_
    refine J_icmp_ne 30 dX9_order_24 (by decide) ?_ ?_
    · refine J_aload_n 0 0 113 dX9_order_30 rfl rfl ?_
      refine J_iconst 0 dX9_order_31 (by decide) ?_
      refine J_iload_n 1 1 a1 dX9_order_32 rfl rfl ?_
      refine J_iload_n 2 2 a2 dX9_order_33 rfl rfl ?_
      refine J_iload_n 3 3 a3 dX9_order_34 rfl rfl ?_
      refine J_iload 4 4 a4 dX9_order_35 rfl ?_
      refine J_callVV 113 9 5 [.int 0, .int a1, .int a2, .int a3, .int a4] dX9_order_37 mv_X9_tells mv_X9_tellsv lk_9_270 (ct_X9_tells F hn P D T m 0 a1 a2 a3 a4) rfl rfl (by decide) rfl (Nat.lt_of_lt_of_le (Nat.le_of_ble_eq_true rfl) hn) ⟨by decide, by decide⟩ (Nat.le_of_ble_eq_true rfl) (fun m5 => ?_)
      refine J_aload_n 0 0 113 dX9_order_40 rfl rfl ?_
      refine J_getR 113 9 0 114 dX9_order_41 fl_9_7 rfl rfl (Nat.lt_of_lt_of_le (Nat.le_of_ble_eq_true rfl) hn) rfl ?_
      refine J_bipush 76 dX9_order_44 (by decide) ?_
      refine J_iald 114 512 dX9_order_46 rfl (Nat.lt_of_lt_of_le (Nat.le_of_ble_eq_true rfl) hn) (fun x6 => ?_)
      refine J_iconst 1 dX9_order_47 (by decide) ?_
      refine J_isub dX9_order_48 ?_
      exact J_iretI dX9_order_49 rfl rfl
    · refine J_bipush (-3) dX9_order_27 (by decide) ?_
      exact J_iretI dX9_order_29 rfl rfl
  · refine J_iconst (-1) dX9_order_13 (by decide) ?_
    exact J_iretI dX9_order_14 rfl rfl
def f_X9_pump (m : Mm) (a1 : Int32) (a2 : Int32) : Option (Int32) :=
  (f_X9_in a1.toInt64 0 (((m 113 8) - (1 : Int32)).toInt64)).bind fun x1 => if x1 = 0 then (some (-1)) else ((f_X9_in a2.toInt64 0 1).bind fun x3 => if x3 = 0 then (some (-1)) else (if a2 = 0 then ((ald m 119 6 ((2 : Int32) * a1)).bind fun x6 => some x6) else ((ald m 114 512 ((44 : Int32) + a1)).bind fun x5 => some x5)))
set_option maxHeartbeats 4000000 in
set_option maxRecDepth 100000 in
theorem ct_X9_pump (F : Nat) {n : Nat} (hn : 135 ≤ n) (P D : Nat) (T : Option Nat) (m : Mm) (a1 : Int32) (a2 : Int32) : Ct yX9_pump cX9_pump 3 (some .int) 1 25 [.ref 113, .int a1, .int a2] n n m (RF P D T) (rP m (RF P D T) (f_X9_pump m a1 a2)) := by
  refine Ct.ofP (own := RX9) (nm := "pump") [(0, .ref 113), (1, .int a1), (2, .int a2)] (by decide) (Nat.le_of_ble_eq_true rfl) rfl rfl rfl ?_
  unfold f_X9_pump
  refine J_iload_n 1 1 a1 dX9_pump_0 rfl rfl ?_
  refine J_i2l dX9_pump_1 ?_
  refine J_lconst 0 dX9_pump_2 (by decide) ?_
  refine J_aload_n 0 0 113 dX9_pump_3 rfl rfl ?_
  refine J_getI 113 9 8 dX9_pump_4 fl_9_102 rfl rfl (Nat.lt_of_lt_of_le (Nat.le_of_ble_eq_true rfl) hn) ?_
  refine J_iconst 1 dX9_pump_7 (by decide) ?_
  refine J_isub dX9_pump_8 ?_
  refine J_i2l dX9_pump_9 ?_
  refine J_callSP 3 [.long a1.toInt64, .long 0, .long (((m 113 8) - (1 : Int32)).toInt64)] dX9_pump_10 mv_X9_in mv_X9_ins lk_9_114 (ct_X9_in F hn P D T m a1.toInt64 0 (((m 113 8) - (1 : Int32)).toInt64)) rfl ⟨by decide, by decide⟩ (Nat.le_of_ble_eq_true rfl) (fun x1 => ?_)
  refine J_if_eq 26 dX9_pump_13 (by decide) ?_ ?_
  · refine J_iconst (-1) dX9_pump_26 (by decide) ?_
    refine J_goto 54 dX9_pump_27 (by decide) ?_
    exact J_iretP dX9_pump_54 rfl rfl
  · refine J_iload_n 2 2 a2 dX9_pump_16 rfl rfl ?_
    refine J_i2l dX9_pump_17 ?_
    refine J_lconst 0 dX9_pump_18 (by decide) ?_
    refine J_lconst 1 dX9_pump_19 (by decide) ?_
    refine J_callSP 3 [.long a2.toInt64, .long 0, .long 1] dX9_pump_20 mv_X9_in mv_X9_ins lk_9_114 (ct_X9_in F hn P D T m a2.toInt64 0 1) rfl ⟨by decide, by decide⟩ (Nat.le_of_ble_eq_true rfl) (fun x3 => ?_)
    refine J_if_ne 30 dX9_pump_23 (by decide) ?_ ?_
    · refine J_iload_n 2 2 a2 dX9_pump_30 rfl rfl ?_
      refine J_if_ne 45 dX9_pump_31 (by decide) ?_ ?_
      · refine J_aload_n 0 0 113 dX9_pump_45 rfl rfl ?_
        refine J_getR 113 9 0 114 dX9_pump_46 fl_9_7 rfl rfl (Nat.lt_of_lt_of_le (Nat.le_of_ble_eq_true rfl) hn) rfl ?_
        refine J_bipush 44 dX9_pump_49 (by decide) ?_
        refine J_iload_n 1 1 a1 dX9_pump_51 rfl rfl ?_
        refine J_iadd dX9_pump_52 ?_
        refine J_iald 114 512 dX9_pump_53 rfl (Nat.lt_of_lt_of_le (Nat.le_of_ble_eq_true rfl) hn) (fun x5 => ?_)
        exact J_iretP dX9_pump_54 rfl rfl
      · refine J_aload_n 0 0 113 dX9_pump_34 rfl rfl ?_
        refine J_getR 113 9 9 119 dX9_pump_35 fl_9_26 rfl rfl (Nat.lt_of_lt_of_le (Nat.le_of_ble_eq_true rfl) hn) rfl ?_
        refine J_iconst 2 dX9_pump_38 (by decide) ?_
        refine J_iload_n 1 1 a1 dX9_pump_39 rfl rfl ?_
        refine J_imul dX9_pump_40 ?_
        refine J_iald 119 6 dX9_pump_41 rfl (Nat.lt_of_lt_of_le (Nat.le_of_ble_eq_true rfl) hn) (fun x6 => ?_)
        refine J_goto 54 dX9_pump_42 (by decide) ?_
        exact J_iretP dX9_pump_54 rfl rfl
    · refine J_iconst (-1) dX9_pump_26 (by decide) ?_
      refine J_goto 54 dX9_pump_27 (by decide) ?_
      exact J_iretP dX9_pump_54 rfl rfl
def f_X9_put (F : Nat) (m : Mm) (a1 : Int32) (a2 : Int32) : Option (Int32 × Mm) :=
  (f_X9_isHold m a1).bind fun x1 => if x1 = 0 then (some ((-1), m)) else ((ald m 116 32 ((4 : Int32) * a1)).bind fun x3 => (f_X9_in a2.toInt64 0 x3.toInt64).bind fun x4 => if x4 = 0 then (some ((-1), m)) else ((ald m 114 512 72).bind fun x6 => if x6 ≤ 0 then ((ald m 114 512 ((0 : Int32) + a1)).bind fun x7 => (ast m 114 512 ((0 : Int32) + a1) a2).bind fun m8 => (f_X9_sees F m8 0).bind fun m10 => some (x7, m10)) else (some ((-2), m))))
set_option maxHeartbeats 4000000 in
set_option maxRecDepth 100000 in
theorem ct_X9_put (F : Nat) {n : Nat} (hn : 135 ≤ n) (P D : Nat) (T : Option Nat) (m : Mm) (a1 : Int32) (a2 : Int32) : Ct yX9_put cX9_put 4 (some .int) 4 85 [.ref 113, .int a1, .int a2] n n m (RF P D T) (rI (RF P D T) (f_X9_put F m a1 a2)) := by
  refine Ct.ofI (own := RX9) (nm := "put") [(0, .ref 113), (1, .int a1), (2, .int a2)] (by decide) (Nat.le_of_ble_eq_true rfl) rfl rfl rfl ?_
  unfold f_X9_put
  refine J_aload_n 0 0 113 dX9_put_0 rfl rfl ?_
  refine J_iload_n 1 1 a1 dX9_put_1 rfl rfl ?_
  refine J_callVP 113 9 1 [.int a1] dX9_put_2 mv_X9_isHold mv_X9_isHoldv lk_9_220 (ct_X9_isHold F hn P D T m a1) rfl rfl (by decide) rfl (Nat.lt_of_lt_of_le (Nat.le_of_ble_eq_true rfl) hn) ⟨by decide, by decide⟩ (Nat.le_of_ble_eq_true rfl) (fun x1 => ?_)
  refine J_if_eq 26 dX9_put_5 (by decide) ?_ ?_
  · refine J_iconst (-1) dX9_put_26 (by decide) ?_
    exact J_iretI dX9_put_27 rfl rfl
  · refine J_iload_n 2 2 a2 dX9_put_8 rfl rfl ?_
    refine J_i2l dX9_put_9 ?_
    refine J_lconst 0 dX9_put_10 (by decide) ?_
    refine J_aload_n 0 0 113 dX9_put_11 rfl rfl ?_
    refine J_getR 113 9 3 116 dX9_put_12 fl_9_17 rfl rfl (Nat.lt_of_lt_of_le (Nat.le_of_ble_eq_true rfl) hn) rfl ?_
    refine J_iconst 4 dX9_put_15 (by decide) ?_
    refine J_iload_n 1 1 a1 dX9_put_16 rfl rfl ?_
    refine J_imul dX9_put_17 ?_
    refine J_iald 116 32 dX9_put_18 rfl (Nat.lt_of_lt_of_le (Nat.le_of_ble_eq_true rfl) hn) (fun x3 => ?_)
    refine J_i2l dX9_put_19 ?_
    refine J_callSP 3 [.long a2.toInt64, .long 0, .long x3.toInt64] dX9_put_20 mv_X9_in mv_X9_ins lk_9_114 (ct_X9_in F hn P D T m a2.toInt64 0 x3.toInt64) rfl ⟨by decide, by decide⟩ (Nat.le_of_ble_eq_true rfl) (fun x4 => ?_)
    refine J_if_ne 28 dX9_put_23 (by decide) ?_ ?_
    · refine J_aload_n 0 0 113 dX9_put_28 rfl rfl ?_
      refine J_getR 113 9 0 114 dX9_put_29 fl_9_7 rfl rfl (Nat.lt_of_lt_of_le (Nat.le_of_ble_eq_true rfl) hn) rfl ?_
      refine J_bipush 72 dX9_put_32 (by decide) ?_
      refine J_iald 114 512 dX9_put_34 rfl (Nat.lt_of_lt_of_le (Nat.le_of_ble_eq_true rfl) hn) (fun x6 => ?_)
      refine J_if_le 41 dX9_put_35 (by decide) ?_ ?_
      · refine J_aload_n 0 0 113 dX9_put_41 rfl rfl ?_
        refine J_getR 113 9 0 114 dX9_put_42 fl_9_7 rfl rfl (Nat.lt_of_lt_of_le (Nat.le_of_ble_eq_true rfl) hn) rfl ?_
        refine J_iconst 0 dX9_put_45 (by decide) ?_
        refine J_iload_n 1 1 a1 dX9_put_46 rfl rfl ?_
        refine J_iadd dX9_put_47 ?_
        refine J_iald 114 512 dX9_put_48 rfl (Nat.lt_of_lt_of_le (Nat.le_of_ble_eq_true rfl) hn) (fun x7 => ?_)
        refine J_istore_n 3 [(3, .int x7), (0, .ref 113), (1, .int a1), (2, .int a2)] dX9_put_49 rfl (by decide) rfl ?_
        refine J_aload_n 0 1 113 dX9_put_50 rfl rfl ?_
        refine J_getR 113 9 0 114 dX9_put_51 fl_9_7 rfl rfl (Nat.lt_of_lt_of_le (Nat.le_of_ble_eq_true rfl) hn) rfl ?_
        refine J_iconst 0 dX9_put_54 (by decide) ?_
        refine J_iload_n 1 2 a1 dX9_put_55 rfl rfl ?_
        refine J_iadd dX9_put_56 ?_
        refine J_iload_n 2 3 a2 dX9_put_57 rfl rfl ?_
        refine J_iast 114 512 dX9_put_58 rfl (Nat.lt_of_lt_of_le (Nat.le_of_ble_eq_true rfl) hn) (fun m8 => ?_)
        refine J_aload_n 0 1 113 dX9_put_59 rfl rfl ?_
        refine J_iconst 0 dX9_put_60 (by decide) ?_
        refine J_callVV 113 9 1 [.int 0] dX9_put_61 mv_X9_sees mv_X9_seesv lk_9_105 (ct_X9_sees F hn P D T m8 0) rfl rfl (by decide) rfl (Nat.lt_of_lt_of_le (Nat.le_of_ble_eq_true rfl) hn) ⟨by decide, by decide⟩ (Nat.le_of_ble_eq_true rfl) (fun m10 => ?_)
        refine J_iload_n 3 0 x7 dX9_put_64 rfl rfl ?_
        exact J_iretI dX9_put_65 rfl rfl
      · refine J_bipush (-2) dX9_put_38 (by decide) ?_
        exact J_iretI dX9_put_40 rfl rfl
    · refine J_iconst (-1) dX9_put_26 (by decide) ?_
      exact J_iretI dX9_put_27 rfl rfl
def b_X9_rates_12 (m : Mm) (a1 : Int32) (t3 : Int32) : Option ((Int32) ⊕ ((Unit) ⊕ (Unit))) :=
  if (m 113 36) ≤ t3 then (some (Sum.inr (Sum.inr (())))) else ((ald m 131 8 t3).bind fun x6 => (ald m 116 32 ((4 : Int32) * a1)).bind fun x7 => if x6 ≤ x7 then (some (Sum.inl (t3 + 1))) else (some (Sum.inr (Sum.inl (())))))
def b_X9_rates_49 (F : Nat) (m : Mm) (a1 : Int32) (t8 : Int32 × Int32) : Option ((Int32 × Int32) ⊕ (Int32)) :=
  if (21 : Int32) ≤ t8.2 then (some (Sum.inr t8.1)) else ((f_X9_fits F m a1 t8.2).bind fun x10 => (if x10 = 0 then (some 0) else (some ((1 : Int32) <<< (t8.2 &&& 31))) : Option (Int32)).bind fun y12 => letv (t8.1 ||| y12) fun x13 => some (Sum.inl (x13, t8.2 + 1)))
def f_X9_rates (F : Nat) (m : Mm) (a1 : Int32) : Option (Int32) :=
  (f_X9_isHold m a1).bind fun x1 => if x1 = 0 then (some (-1)) else ((iter F (b_X9_rates_12 m a1) (0 : Int32)).bind (Sum.elim (fun e4 : Unit => some (-1)) (fun e5 : Unit => (iter F (b_X9_rates_49 F m a1) ((0, 1) : Int32 × Int32)).bind (fun e9 : Int32 => some e9))))
set_option maxHeartbeats 4000000 in
set_option maxRecDepth 100000 in
theorem ct_X9_rates (F : Nat) {n : Nat} (hn : 135 ≤ n) (P D : Nat) (T : Option Nat) (m : Mm) (a1 : Int32) : Ct yX9_rates cX9_rates 4 (some .int) 2 46 [.ref 113, .int a1] n n m (RF P D T) (rP m (RF P D T) (f_X9_rates F m a1)) := by
  refine Ct.ofP (own := RX9) (nm := "rates") [(0, .ref 113), (1, .int a1)] (by decide) (Nat.le_of_ble_eq_true rfl) rfl rfl rfl ?_
  unfold f_X9_rates
  refine J_aload_n 0 0 113 dX9_rates_0 rfl rfl ?_
  refine J_iload_n 1 1 a1 dX9_rates_1 rfl rfl ?_
  refine J_callVP 113 9 1 [.int a1] dX9_rates_2 mv_X9_isHold mv_X9_isHoldv lk_9_220 (ct_X9_isHold F hn P D T m a1) rfl rfl (by decide) rfl (Nat.lt_of_lt_of_le (Nat.le_of_ble_eq_true rfl) hn) ⟨by decide, by decide⟩ (Nat.le_of_ble_eq_true rfl) (fun x1 => ?_)
  refine J_if_ne 10 dX9_rates_5 (by decide) ?_ ?_
  · refine J_iconst 0 dX9_rates_10 (by decide) ?_
    refine J_istore_n 2 [(2, .int 0), (0, .ref 113), (1, .int a1)] dX9_rates_11 rfl (by decide) rfl ?_
    refine J_lv [1, 2, 0] rfl ?_
    refine J_loop (pc := 12) (fun t3 : Int32 => [(0, .ref 113), (1, .int a1), (2, .int t3)]) (fun t3 => m) (Sum.elim (fun _ => 37) (fun _ => 45)) (Sum.elim (fun e4 : Unit => []) (fun e5 : Unit => [(0, .ref 113), (1, .int a1)])) (fun _ => []) (Sum.elim (fun e4 : Unit => m) (fun e5 : Unit => m)) ?_ (fun t3 k1 hBt3 hXt3 => ?_) F 0
    · refine sum_all ?_ ?_
      · intro e4
        dsimp only [Sum.elim_inl, Sum.elim_inr]
        refine J_iconst (-1) dX9_rates_37 (by decide) ?_
        exact J_iretP dX9_rates_38 rfl rfl
      · intro e5
        dsimp only [Sum.elim_inl, Sum.elim_inr]
        refine J_iconst 0 dX9_rates_45 (by decide) ?_
        refine J_istore_n 2 [(2, .int 0), (0, .ref 113), (1, .int a1)] dX9_rates_46 rfl (by decide) rfl ?_
        refine J_iconst 1 dX9_rates_47 (by decide) ?_
        refine J_istore_n 3 [(3, .int 1), (2, .int 0), (0, .ref 113), (1, .int a1)] dX9_rates_48 rfl (by decide) rfl ?_
        refine J_lv [2, 3, 1, 0] rfl ?_
        refine J_loop (pc := 49) (fun t8 : Int32 × Int32 => [(0, .ref 113), (1, .int a1), (2, .int t8.1), (3, .int t8.2)]) (fun t8 => m) (fun _ => 80) (fun e9 => [(2, .int e9)]) (fun _ => []) (fun e9 => m) ?_ (fun t8 k1 hBt8 hXt8 => ?_) F ((0, 1))
        · refine fun e9 => ?_
          refine J_iload_n 2 0 e9 dX9_rates_80 rfl rfl ?_
          exact J_iretP dX9_rates_81 rfl rfl
        · unfold b_X9_rates_49
          refine J_iload_n 3 3 t8.2 dX9_rates_49 rfl rfl ?_
          refine J_bipush 21 dX9_rates_50 (by decide) ?_
          refine J_icmp_ge 80 dX9_rates_52 (by decide) ?_ ?_
          · exact J_lv [2] rfl (hXt8 t8.1)
          · refine J_iload_n 2 2 t8.1 dX9_rates_55 rfl rfl ?_
            refine J_aload_n 0 0 113 dX9_rates_56 rfl rfl ?_
            refine J_iload_n 1 1 a1 dX9_rates_57 rfl rfl ?_
            refine J_iload_n 3 3 t8.2 dX9_rates_58 rfl rfl ?_
            refine J_callVP 113 9 2 [.int a1, .int t8.2] dX9_rates_59 mv_X9_fits mv_X9_fitsv lk_9_353 (ct_X9_fits F hn P D T m a1 t8.2) rfl rfl (by decide) rfl (Nat.lt_of_lt_of_le (Nat.le_of_ble_eq_true rfl) hn) ⟨by decide, by decide⟩ (Nat.le_of_ble_eq_true rfl) (fun x10 => ?_)
            refine J_seqJ 72 (fun y12 : Int32 => [(0, .ref 113), (1, .int a1), (3, .int t8.2)]) (fun y12 => [.int y12, .int t8.1]) (fun y12 => m) (fun y12 => ?_) (fun k1 hEy12 => ?_)
            · refine J_ior dX9_rates_72 ?_
              refine J_let (fun x13 => ?_)
              refine J_istore_n 2 [(2, .int x13), (0, .ref 113), (1, .int a1), (3, .int t8.2)] dX9_rates_73 rfl (by decide) rfl ?_
              refine J_iinc 3 3 [(3, .int (t8.2 + 1)), (2, .int x13), (0, .ref 113), (1, .int a1)] t8.2 (t8.2 + 1) dX9_rates_74 rfl rfl (by decide) rfl ?_
              refine J_goto 49 dX9_rates_77 (by decide) ?_
              exact J_lv [2, 3, 1, 0] rfl (hBt8 (x13, t8.2 + 1))
            · refine J_if_eq 71 dX9_rates_62 (by decide) ?_ ?_
              · refine J_iconst 0 dX9_rates_71 (by decide) ?_
                exact J_lv [0, 1, 3] rfl (hEy12 0)
              · refine J_iconst 1 dX9_rates_65 (by decide) ?_
                refine J_iload_n 3 3 t8.2 dX9_rates_66 rfl rfl ?_
                refine J_ishl dX9_rates_67 ?_
                refine J_goto 72 dX9_rates_68 (by decide) ?_
                exact J_lv [0, 1, 3] rfl (hEy12 ((1 : Int32) <<< (t8.2 &&& 31)))
    · unfold b_X9_rates_12
      refine J_iload_n 2 2 t3 dX9_rates_12 rfl rfl ?_
      refine J_aload_n 0 0 113 dX9_rates_13 rfl rfl ?_
      refine J_getI 113 9 36 dX9_rates_14 fl_9_350 rfl rfl (Nat.lt_of_lt_of_le (Nat.le_of_ble_eq_true rfl) hn) ?_
      refine J_icmp_ge 45 dX9_rates_17 (by decide) ?_ ?_
      · exact J_lv [0, 1] rfl (hXt3 (Sum.inr (())))
      · refine J_aload_n 0 0 113 dX9_rates_20 rfl rfl ?_
        refine J_getR 113 9 37 131 dX9_rates_21 fl_9_62 rfl rfl (Nat.lt_of_lt_of_le (Nat.le_of_ble_eq_true rfl) hn) rfl ?_
        refine J_iload_n 2 2 t3 dX9_rates_24 rfl rfl ?_
        refine J_iald 131 8 dX9_rates_25 rfl (Nat.lt_of_lt_of_le (Nat.le_of_ble_eq_true rfl) hn) (fun x6 => ?_)
        refine J_aload_n 0 0 113 dX9_rates_26 rfl rfl ?_
        refine J_getR 113 9 3 116 dX9_rates_27 fl_9_17 rfl rfl (Nat.lt_of_lt_of_le (Nat.le_of_ble_eq_true rfl) hn) rfl ?_
        refine J_iconst 4 dX9_rates_30 (by decide) ?_
        refine J_iload_n 1 1 a1 dX9_rates_31 rfl rfl ?_
        refine J_imul dX9_rates_32 ?_
        refine J_iald 116 32 dX9_rates_33 rfl (Nat.lt_of_lt_of_le (Nat.le_of_ble_eq_true rfl) hn) (fun x7 => ?_)
        refine J_icmp_le 39 dX9_rates_34 (by decide) ?_ ?_
        · refine J_iinc 2 2 [(2, .int (t3 + 1)), (0, .ref 113), (1, .int a1)] t3 (t3 + 1) dX9_rates_39 rfl rfl (by decide) rfl ?_
          refine J_goto 12 dX9_rates_42 (by decide) ?_
          exact J_lv [1, 2, 0] rfl (hBt3 (t3 + 1))
        · exact J_lv [] rfl (hXt3 (Sum.inl (())))
  · refine J_iconst (-1) dX9_rates_8 (by decide) ?_
    exact J_iretP dX9_rates_9 rfl rfl

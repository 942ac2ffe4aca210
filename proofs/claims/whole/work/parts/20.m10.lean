theorem fl_8_191 : FL RX8 191 1 19 := ⟨by decide, by decide, tb 330 (by decide +kernel) rfl⟩
theorem fl_8_194 : FL RX8 194 7 1 := ⟨by decide, by decide, tb 144 (by decide +kernel) rfl⟩
theorem fl_8_214 : FL RX8 214 3 0 := ⟨by decide, by decide, tb 127 (by decide +kernel) rfl⟩
theorem fl_8_217 : FL RX8 217 3 1 := ⟨by decide, by decide, tb 130 (by decide +kernel) rfl⟩
theorem fl_8_220 : FL RX8 220 3 2 := ⟨by decide, by decide, tb 132 (by decide +kernel) rfl⟩
theorem fl_8_223 : FL RX8 223 7 2 := ⟨by decide, by decide, tb 146 (by decide +kernel) rfl⟩
theorem fl_8_337 : FL RX8 337 5 0 := ⟨by decide, by decide, tb 380 (by decide +kernel) rfl⟩
theorem lk_8_182 : Cond.methodLink RX8 182 yX8_isPump ∈ TBg := tb 654 (by decide +kernel) rfl
theorem lk_8_226 : Cond.methodLink RX8 226 yX0_tally ∈ TBg := tb 735 (by decide +kernel) rfl
theorem lk_8_340 : Cond.methodLink RX8 340 yX5_tearAt ∈ TBg := tb 961 (by decide +kernel) rfl
theorem lk_8_343 : Cond.methodLink RX8 343 yX5_store ∈ TBg := tb 965 (by decide +kernel) rfl
theorem mv_X5_store : MV yX5_store cX5_store 3 none 2 := ⟨tb 968 (by decide +kernel) rfl, tb 9 (by decide +kernel) rfl, by decide +kernel⟩
theorem mv_X5_storev : Cond.instanceMethod yX5_store ∈ TBg ∧ Cond.selects yX5_store.cls yX5_store yX5_store ∈ TBg := ⟨tb 966 (by decide +kernel) rfl, tb 967 (by decide +kernel) rfl⟩
theorem mv_X5_tearAt : MV yX5_tearAt cX5_tearAt 4 (some .int) 3 := ⟨tb 964 (by decide +kernel) rfl, tb 9 (by decide +kernel) rfl, by decide +kernel⟩
theorem mv_X5_tearAtv : Cond.instanceMethod yX5_tearAt ∈ TBg ∧ Cond.selects yX5_tearAt.cls yX5_tearAt yX5_tearAt ∈ TBg := ⟨tb 962 (by decide +kernel) rfl, tb 963 (by decide +kernel) rfl⟩
theorem mv_X8_isPump : MV yX8_isPump cX8_isPump 2 (some .boolean) 1 := ⟨tb 657 (by decide +kernel) rfl, tb 1 (by decide +kernel) rfl, by decide +kernel⟩
theorem mv_X8_isPumpv : Cond.instanceMethod yX8_isPump ∈ TBg ∧ Cond.selects yX8_isPump.cls yX8_isPump yX8_isPump ∈ TBg := ⟨tb 656 (by decide +kernel) rfl, tbP (k := 13) 17 (by decide +kernel) rfl⟩
theorem dX8_isOrder_0 : decode cX8_isOrder 0 = .ok (.iload_n 1, 1) := by decide +kernel
theorem dX8_isOrder_1 : decode cX8_isOrder 1 = .ok (.tableswitch 98 0 4 #[35, 35, 41, 47, 75], 35) := by decide +kernel
theorem dX8_isOrder_36 : decode cX8_isOrder 36 = .ok (.aload_n 0, 1) := by decide +kernel
theorem dX8_isOrder_37 : decode cX8_isOrder 37 = .ok (.iload_n 2, 1) := by decide +kernel
theorem dX8_isOrder_38 : decode cX8_isOrder 38 = .ok (.invokevirtual 133, 3) := by decide +kernel
theorem dX8_isOrder_41 : decode cX8_isOrder 41 = .ok (.ireturn, 1) := by decide +kernel
theorem dX8_isOrder_42 : decode cX8_isOrder 42 = .ok (.aload_n 0, 1) := by decide +kernel
theorem dX8_isOrder_43 : decode cX8_isOrder 43 = .ok (.iload_n 2, 1) := by decide +kernel
theorem dX8_isOrder_44 : decode cX8_isOrder 44 = .ok (.invokevirtual 163, 3) := by decide +kernel
theorem dX8_isOrder_47 : decode cX8_isOrder 47 = .ok (.ireturn, 1) := by decide +kernel
theorem dX8_isOrder_48 : decode cX8_isOrder 48 = .ok (.aload_n 0, 1) := by decide +kernel
theorem dX8_isOrder_49 : decode cX8_isOrder 49 = .ok (.iload_n 2, 1) := by decide +kernel
theorem dX8_isOrder_50 : decode cX8_isOrder 50 = .ok (.invokevirtual 182, 3) := by decide +kernel
theorem dX8_isOrder_53 : decode cX8_isOrder 53 = .ok (.ifCond .eq 21, 3) := by decide +kernel
theorem dX8_isOrder_56 : decode cX8_isOrder 56 = .ok (.iload_n 3, 1) := by decide +kernel
theorem dX8_isOrder_57 : decode cX8_isOrder 57 = .ok (.bipush (-4), 2) := by decide +kernel
theorem dX8_isOrder_59 : decode cX8_isOrder 59 = .ok (.if_icmp .eq 11, 3) := by decide +kernel
theorem dX8_isOrder_62 : decode cX8_isOrder 62 = .ok (.aload_n 0, 1) := by decide +kernel
theorem dX8_isOrder_63 : decode cX8_isOrder 63 = .ok (.iload_n 3, 1) := by decide +kernel
theorem dX8_isOrder_64 : decode cX8_isOrder 64 = .ok (.invokevirtual 109, 3) := by decide +kernel
theorem dX8_isOrder_67 : decode cX8_isOrder 67 = .ok (.ifCond .eq 7, 3) := by decide +kernel
theorem dX8_isOrder_70 : decode cX8_isOrder 70 = .ok (.iconst 1, 1) := by decide +kernel
theorem dX8_isOrder_71 : decode cX8_isOrder 71 = .ok (.goto 4, 3) := by decide +kernel
theorem dX8_isOrder_74 : decode cX8_isOrder 74 = .ok (.iconst 0, 1) := by decide +kernel
theorem dX8_isOrder_75 : decode cX8_isOrder 75 = .ok (.ireturn, 1) := by decide +kernel
theorem dX8_isOrder_76 : decode cX8_isOrder 76 = .ok (.aload_n 0, 1) := by decide +kernel
theorem dX8_isOrder_77 : decode cX8_isOrder 77 = .ok (.iload_n 2, 1) := by decide +kernel
theorem dX8_isOrder_78 : decode cX8_isOrder 78 = .ok (.invokevirtual 109, 3) := by decide +kernel
theorem dX8_isOrder_81 : decode cX8_isOrder 81 = .ok (.ifCond .eq 16, 3) := by decide +kernel
theorem dX8_isOrder_84 : decode cX8_isOrder 84 = .ok (.iload_n 3, 1) := by decide +kernel
theorem dX8_isOrder_85 : decode cX8_isOrder 85 = .ok (.ifCond .eq 8, 3) := by decide +kernel
theorem dX8_isOrder_88 : decode cX8_isOrder 88 = .ok (.iload_n 3, 1) := by decide +kernel
theorem dX8_isOrder_89 : decode cX8_isOrder 89 = .ok (.iconst 1, 1) := by decide +kernel
theorem dX8_isOrder_90 : decode cX8_isOrder 90 = .ok (.if_icmp .ne 7, 3) := by decide +kernel
theorem dX8_isOrder_93 : decode cX8_isOrder 93 = .ok (.iconst 1, 1) := by decide +kernel
theorem dX8_isOrder_94 : decode cX8_isOrder 94 = .ok (.goto 4, 3) := by decide +kernel
theorem dX8_isOrder_97 : decode cX8_isOrder 97 = .ok (.iconst 0, 1) := by decide +kernel
theorem dX8_isOrder_98 : decode cX8_isOrder 98 = .ok (.ireturn, 1) := by decide +kernel
theorem dX8_isOrder_99 : decode cX8_isOrder 99 = .ok (.iconst 0, 1) := by decide +kernel
theorem dX8_isOrder_100 : decode cX8_isOrder 100 = .ok (.ireturn, 1) := by decide +kernel
theorem dX8_keep_0 : decode cX8_keep 0 = .ok (.iload_n 1, 1) := by decide +kernel
theorem dX8_keep_1 : decode cX8_keep 1 = .ok (.ifCond .lt 8, 3) := by decide +kernel
theorem dX8_keep_4 : decode cX8_keep 4 = .ok (.iload_n 1, 1) := by decide +kernel
theorem dX8_keep_5 : decode cX8_keep 5 = .ok (.iconst 2, 1) := by decide +kernel
theorem dX8_keep_6 : decode cX8_keep 6 = .ok (.if_icmp .lt 5, 3) := by decide +kernel
theorem dX8_keep_9 : decode cX8_keep 9 = .ok (.iconst (-1), 1) := by decide +kernel
theorem dX8_keep_10 : decode cX8_keep 10 = .ok (.ireturn, 1) := by decide +kernel
theorem dX8_keep_11 : decode cX8_keep 11 = .ok (.aload_n 0, 1) := by decide +kernel
theorem dX8_keep_12 : decode cX8_keep 12 = .ok (.getfield 30, 3) := by decide +kernel
theorem dX8_keep_15 : decode cX8_keep 15 = .ok (.iload_n 1, 1) := by decide +kernel
theorem dX8_keep_16 : decode cX8_keep 16 = .ok (.baload, 1) := by decide +kernel
theorem dX8_keep_17 : decode cX8_keep 17 = .ok (.ifCond .eq 7, 3) := by decide +kernel
theorem dX8_keep_20 : decode cX8_keep 20 = .ok (.iconst 1, 1) := by decide +kernel
theorem dX8_keep_21 : decode cX8_keep 21 = .ok (.goto 4, 3) := by decide +kernel
theorem dX8_keep_24 : decode cX8_keep 24 = .ok (.iconst 0, 1) := by decide +kernel
theorem dX8_keep_25 : decode cX8_keep 25 = .ok (.istore_n 2, 1) := by decide +kernel
theorem dX8_keep_26 : decode cX8_keep 26 = .ok (.aload_n 0, 1) := by decide +kernel
theorem dX8_keep_27 : decode cX8_keep 27 = .ok (.getfield 26, 3) := by decide +kernel
theorem dX8_keep_30 : decode cX8_keep 30 = .ok (.iload_n 1, 1) := by decide +kernel
theorem dX8_keep_31 : decode cX8_keep 31 = .ok (.aaload, 1) := by decide +kernel
theorem dX8_keep_32 : decode cX8_keep 32 = .ok (.aload_n 0, 1) := by decide +kernel
theorem dX8_keep_33 : decode cX8_keep 33 = .ok (.getfield 19, 3) := by decide +kernel
theorem dX8_keep_36 : decode cX8_keep 36 = .ok (.invokevirtual 229, 3) := by decide +kernel
theorem dX8_keep_39 : decode cX8_keep 39 = .ok (.aload_n 0, 1) := by decide +kernel
theorem dX8_keep_40 : decode cX8_keep 40 = .ok (.getfield 30, 3) := by decide +kernel
theorem dX8_keep_43 : decode cX8_keep 43 = .ok (.iload_n 1, 1) := by decide +kernel
theorem dX8_keep_44 : decode cX8_keep 44 = .ok (.iconst 1, 1) := by decide +kernel
theorem dX8_keep_45 : decode cX8_keep 45 = .ok (.bastore, 1) := by decide +kernel
theorem dX8_keep_46 : decode cX8_keep 46 = .ok (.iload_n 2, 1) := by decide +kernel
theorem dX8_keep_47 : decode cX8_keep 47 = .ok (.ireturn, 1) := by decide +kernel
theorem dX8_latest_0 : decode cX8_latest 0 = .ok (.aload_n 0, 1) := by decide +kernel
theorem dX8_latest_1 : decode cX8_latest 1 = .ok (.iload_n 1, 1) := by decide +kernel
theorem dX8_latest_2 : decode cX8_latest 2 = .ok (.invokevirtual 133, 3) := by decide +kernel
theorem dX8_latest_5 : decode cX8_latest 5 = .ok (.ifCond .eq 14, 3) := by decide +kernel
theorem dX8_latest_8 : decode cX8_latest 8 = .ok (.iload_n 2, 1) := by decide +kernel
theorem dX8_latest_9 : decode cX8_latest 9 = .ok (.iconst 1, 1) := by decide +kernel
theorem dX8_latest_10 : decode cX8_latest 10 = .ok (.if_icmp .lt 9, 3) := by decide +kernel
theorem dX8_latest_13 : decode cX8_latest 13 = .ok (.iload_n 2, 1) := by decide +kernel
theorem dX8_latest_14 : decode cX8_latest 14 = .ok (.bipush 60, 2) := by decide +kernel
theorem dX8_latest_16 : decode cX8_latest 16 = .ok (.if_icmp .le 5, 3) := by decide +kernel
theorem dX8_latest_19 : decode cX8_latest 19 = .ok (.iconst (-1), 1) := by decide +kernel
theorem dX8_latest_20 : decode cX8_latest 20 = .ok (.ireturn, 1) := by decide +kernel
theorem dX8_latest_21 : decode cX8_latest 21 = .ok (.aload_n 0, 1) := by decide +kernel
theorem dX8_latest_22 : decode cX8_latest 22 = .ok (.iload_n 1, 1) := by decide +kernel
theorem dX8_latest_23 : decode cX8_latest 23 = .ok (.invokevirtual 283, 3) := by decide +kernel
theorem dX8_latest_26 : decode cX8_latest 26 = .ok (.ifCond .ne 6, 3) := by decide +kernel
theorem dX8_latest_29 : decode cX8_latest 29 = .ok (.bipush (-2), 2) := by decide +kernel
theorem dX8_latest_31 : decode cX8_latest 31 = .ok (.ireturn, 1) := by decide +kernel
theorem dX8_latest_32 : decode cX8_latest 32 = .ok (.iload_n 2, 1) := by decide +kernel
theorem dX8_latest_33 : decode cX8_latest 33 = .ok (.istore_n 3, 1) := by decide +kernel
theorem dX8_latest_34 : decode cX8_latest 34 = .ok (.iload_n 3, 1) := by decide +kernel
theorem dX8_latest_35 : decode cX8_latest 35 = .ok (.ifCond .lt 23, 3) := by decide +kernel
theorem dX8_latest_38 : decode cX8_latest 38 = .ok (.aload_n 0, 1) := by decide +kernel
theorem dX8_latest_39 : decode cX8_latest 39 = .ok (.iload_n 1, 1) := by decide +kernel
theorem dX8_latest_40 : decode cX8_latest 40 = .ok (.iload_n 3, 1) := by decide +kernel
theorem dX8_latest_41 : decode cX8_latest 41 = .ok (.iload_n 2, 1) := by decide +kernel
theorem dX8_latest_42 : decode cX8_latest 42 = .ok (.invokevirtual 286, 3) := by decide +kernel
theorem dX8_latest_45 : decode cX8_latest 45 = .ok (.bipush (-4), 2) := by decide +kernel
theorem dX8_latest_47 : decode cX8_latest 47 = .ok (.if_icmp .ne 5, 3) := by decide +kernel
theorem dX8_latest_50 : decode cX8_latest 50 = .ok (.iload_n 3, 1) := by decide +kernel
theorem dX8_latest_51 : decode cX8_latest 51 = .ok (.ireturn, 1) := by decide +kernel
theorem dX8_latest_52 : decode cX8_latest 52 = .ok (.iinc 3 (-1), 3) := by decide +kernel
theorem dX8_latest_55 : decode cX8_latest 55 = .ok (.goto (-21), 3) := by decide +kernel
theorem dX8_latest_58 : decode cX8_latest 58 = .ok (.bipush (-4), 2) := by decide +kernel
theorem dX8_latest_60 : decode cX8_latest 60 = .ok (.ireturn, 1) := by decide +kernel
theorem dX8_lay_0 : decode cX8_lay 0 = .ok (.iload_n 1, 1) := by decide +kernel
theorem dX8_lay_1 : decode cX8_lay 1 = .ok (.ifCond .lt 8, 3) := by decide +kernel
theorem dX8_lay_4 : decode cX8_lay 4 = .ok (.iload_n 1, 1) := by decide +kernel
theorem dX8_lay_5 : decode cX8_lay 5 = .ok (.iconst 4, 1) := by decide +kernel
theorem dX8_lay_6 : decode cX8_lay 6 = .ok (.if_icmp .lt 5, 3) := by decide +kernel
theorem dX8_lay_9 : decode cX8_lay 9 = .ok (.iconst (-1), 1) := by decide +kernel
theorem dX8_lay_10 : decode cX8_lay 10 = .ok (.ireturn, 1) := by decide +kernel
theorem dX8_lay_11 : decode cX8_lay 11 = .ok (.aload_n 0, 1) := by decide +kernel
theorem dX8_lay_12 : decode cX8_lay 12 = .ok (.getfield 57, 3) := by decide +kernel
theorem dX8_lay_15 : decode cX8_lay 15 = .ok (.iload_n 1, 1) := by decide +kernel
theorem dX8_lay_16 : decode cX8_lay 16 = .ok (.aaload, 1) := by decide +kernel
theorem dX8_lay_17 : decode cX8_lay 17 = .ok (.aload_n 0, 1) := by decide +kernel
theorem dX8_lay_18 : decode cX8_lay 18 = .ok (.getfield 57, 3) := by decide +kernel
theorem dX8_lay_21 : decode cX8_lay 21 = .ok (.iload_n 1, 1) := by decide +kernel
theorem dX8_lay_22 : decode cX8_lay 22 = .ok (.aaload, 1) := by decide +kernel
theorem dX8_lay_23 : decode cX8_lay 23 = .ok (.getfield 337, 3) := by decide +kernel
theorem dX8_lay_26 : decode cX8_lay 26 = .ok (.iload_n 2, 1) := by decide +kernel
theorem dX8_lay_27 : decode cX8_lay 27 = .ok (.iconst 1, 1) := by decide +kernel
theorem dX8_lay_28 : decode cX8_lay 28 = .ok (.invokevirtual 340, 3) := by decide +kernel
theorem dX8_lay_31 : decode cX8_lay 31 = .ok (.istore 4, 2) := by decide +kernel
theorem dX8_lay_33 : decode cX8_lay 33 = .ok (.iload 4, 2) := by decide +kernel
theorem dX8_lay_35 : decode cX8_lay 35 = .ok (.ifCond .eq 9, 3) := by decide +kernel
theorem dX8_lay_38 : decode cX8_lay 38 = .ok (.bipush (-10), 2) := by decide +kernel
theorem dX8_lay_40 : decode cX8_lay 40 = .ok (.iload 4, 2) := by decide +kernel
theorem dX8_lay_42 : decode cX8_lay 42 = .ok (.isub, 1) := by decide +kernel
theorem dX8_lay_43 : decode cX8_lay 43 = .ok (.ireturn, 1) := by decide +kernel
theorem dX8_lay_44 : decode cX8_lay 44 = .ok (.aload_n 0, 1) := by decide +kernel
theorem dX8_lay_45 : decode cX8_lay 45 = .ok (.getfield 57, 3) := by decide +kernel
theorem dX8_lay_48 : decode cX8_lay 48 = .ok (.iload_n 1, 1) := by decide +kernel
theorem dX8_lay_49 : decode cX8_lay 49 = .ok (.aaload, 1) := by decide +kernel
theorem dX8_lay_50 : decode cX8_lay 50 = .ok (.iload_n 2, 1) := by decide +kernel
theorem dX8_lay_51 : decode cX8_lay 51 = .ok (.iload_n 3, 1) := by decide +kernel
theorem dX8_lay_52 : decode cX8_lay 52 = .ok (.invokevirtual 343, 3) := by decide +kernel
theorem dX8_lay_55 : decode cX8_lay 55 = .ok (.iconst 1, 1) := by decide +kernel
theorem dX8_lay_56 : decode cX8_lay 56 = .ok (.ireturn, 1) := by decide +kernel
theorem dX8_men_0 : decode cX8_men 0 = .ok (.iload_n 1, 1) := by decide +kernel
theorem dX8_men_1 : decode cX8_men 1 = .ok (.ifCond .lt 16, 3) := by decide +kernel
theorem dX8_men_4 : decode cX8_men 4 = .ok (.iload_n 1, 1) := by decide +kernel
theorem dX8_men_5 : decode cX8_men 5 = .ok (.iconst 1, 1) := by decide +kernel
theorem dX8_men_6 : decode cX8_men 6 = .ok (.aload_n 0, 1) := by decide +kernel
theorem dX8_men_7 : decode cX8_men 7 = .ok (.getfield 64, 3) := by decide +kernel
theorem dX8_men_10 : decode cX8_men 10 = .ok (.getfield 290, 3) := by decide +kernel
theorem dX8_men_13 : decode cX8_men 13 = .ok (.ishl, 1) := by decide +kernel
theorem dX8_men_14 : decode cX8_men 14 = .ok (.if_icmp .lt 5, 3) := by decide +kernel
theorem dX8_men_17 : decode cX8_men 17 = .ok (.iconst (-1), 1) := by decide +kernel
theorem dX8_men_18 : decode cX8_men 18 = .ok (.ireturn, 1) := by decide +kernel
theorem dX8_men_19 : decode cX8_men 19 = .ok (.iconst 1, 1) := by decide +kernel
theorem dX8_men_20 : decode cX8_men 20 = .ok (.aload_n 0, 1) := by decide +kernel
theorem dX8_men_21 : decode cX8_men 21 = .ok (.getfield 64, 3) := by decide +kernel
theorem dX8_men_24 : decode cX8_men 24 = .ok (.getfield 297, 3) := by decide +kernel
theorem dX8_men_27 : decode cX8_men 27 = .ok (.ishl, 1) := by decide +kernel
theorem dX8_men_28 : decode cX8_men 28 = .ok (.iconst 1, 1) := by decide +kernel
theorem dX8_men_29 : decode cX8_men 29 = .ok (.isub, 1) := by decide +kernel
theorem dX8_men_30 : decode cX8_men 30 = .ok (.istore_n 2, 1) := by decide +kernel
theorem dX8_men_31 : decode cX8_men 31 = .ok (.iload_n 2, 1) := by decide +kernel
theorem dX8_men_32 : decode cX8_men 32 = .ok (.aload_n 0, 1) := by decide +kernel
theorem dX8_men_33 : decode cX8_men 33 = .ok (.iconst 1, 1) := by decide +kernel
theorem dX8_men_34 : decode cX8_men 34 = .ok (.aload_n 0, 1) := by decide +kernel
theorem dX8_men_35 : decode cX8_men 35 = .ok (.getfield 64, 3) := by decide +kernel
theorem dX8_men_38 : decode cX8_men 38 = .ok (.getfield 191, 3) := by decide +kernel
theorem dX8_men_41 : decode cX8_men 41 = .ok (.iconst 4, 1) := by decide +kernel
theorem dX8_men_42 : decode cX8_men 42 = .ok (.iaload, 1) := by decide +kernel
theorem dX8_men_43 : decode cX8_men 43 = .ok (.ishl, 1) := by decide +kernel
theorem dX8_men_44 : decode cX8_men 44 = .ok (.aload_n 0, 1) := by decide +kernel
theorem dX8_men_45 : decode cX8_men 45 = .ok (.invokevirtual 314, 3) := by decide +kernel
theorem dX8_men_48 : decode cX8_men 48 = .ok (.iload_n 1, 1) := by decide +kernel
theorem dX8_men_49 : decode cX8_men 49 = .ok (.iconst (-1), 1) := by decide +kernel
theorem dX8_men_50 : decode cX8_men 50 = .ok (.ixor, 1) := by decide +kernel
theorem dX8_men_51 : decode cX8_men 51 = .ok (.iand, 1) := by decide +kernel
theorem dX8_men_52 : decode cX8_men 52 = .ok (.invokevirtual 317, 3) := by decide +kernel
theorem dX8_men_55 : decode cX8_men 55 = .ok (.iconst (-1), 1) := by decide +kernel
theorem dX8_men_56 : decode cX8_men 56 = .ok (.ixor, 1) := by decide +kernel
theorem dX8_men_57 : decode cX8_men 57 = .ok (.iand, 1) := by decide +kernel
theorem dX8_men_58 : decode cX8_men 58 = .ok (.ireturn, 1) := by decide +kernel
theorem dX8_most_0 : decode cX8_most 0 = .ok (.iload_n 1, 1) := by decide +kernel
theorem dX8_most_1 : decode cX8_most 1 = .ok (.ifCond .lt 8, 3) := by decide +kernel
theorem dX8_most_4 : decode cX8_most 4 = .ok (.iload_n 1, 1) := by decide +kernel
theorem dX8_most_5 : decode cX8_most 5 = .ok (.iconst 1, 1) := by decide +kernel
theorem dX8_most_6 : decode cX8_most 6 = .ok (.if_icmp .le 5, 3) := by decide +kernel
theorem dX8_most_9 : decode cX8_most 9 = .ok (.iconst (-1), 1) := by decide +kernel
theorem dX8_most_10 : decode cX8_most 10 = .ok (.ireturn, 1) := by decide +kernel
theorem dX8_most_11 : decode cX8_most 11 = .ok (.bipush (-4), 2) := by decide +kernel
theorem dX8_most_13 : decode cX8_most 13 = .ok (.istore_n 2, 1) := by decide +kernel
theorem dX8_most_14 : decode cX8_most 14 = .ok (.bipush (-4), 2) := by decide +kernel
theorem dX8_most_16 : decode cX8_most 16 = .ok (.istore_n 3, 1) := by decide +kernel
theorem dX8_most_17 : decode cX8_most 17 = .ok (.iconst 0, 1) := by decide +kernel
theorem dX8_most_18 : decode cX8_most 18 = .ok (.istore 4, 2) := by decide +kernel
theorem dX8_most_20 : decode cX8_most 20 = .ok (.iload 4, 2) := by decide +kernel
theorem dX8_most_22 : decode cX8_most 22 = .ok (.iconst 1, 1) := by decide +kernel
theorem dX8_most_23 : decode cX8_most 23 = .ok (.aload_n 0, 1) := by decide +kernel
theorem dX8_most_24 : decode cX8_most 24 = .ok (.getfield 64, 3) := by decide +kernel
theorem dX8_most_27 : decode cX8_most 27 = .ok (.getfield 297, 3) := by decide +kernel
theorem dX8_most_30 : decode cX8_most 30 = .ok (.ishl, 1) := by decide +kernel
theorem dX8_most_31 : decode cX8_most 31 = .ok (.if_icmp .ge 36, 3) := by decide +kernel
theorem dX8_most_34 : decode cX8_most 34 = .ok (.iload 4, 2) := by decide +kernel
theorem dX8_most_36 : decode cX8_most 36 = .ok (.invokestatic 306, 3) := by decide +kernel
theorem dX8_most_39 : decode cX8_most 39 = .ok (.iload_n 3, 1) := by decide +kernel
theorem dX8_most_40 : decode cX8_most 40 = .ok (.if_icmp .le 21, 3) := by decide +kernel
theorem dX8_most_43 : decode cX8_most 43 = .ok (.aload_n 0, 1) := by decide +kernel
theorem dX8_most_44 : decode cX8_most 44 = .ok (.iload 4, 2) := by decide +kernel
theorem dX8_most_46 : decode cX8_most 46 = .ok (.invokevirtual 300, 3) := by decide +kernel
theorem dX8_most_49 : decode cX8_most 49 = .ok (.ifCond .eq 12, 3) := by decide +kernel
theorem dX8_most_52 : decode cX8_most 52 = .ok (.iload 4, 2) := by decide +kernel
theorem dX8_most_54 : decode cX8_most 54 = .ok (.istore_n 2, 1) := by decide +kernel
theorem dX8_most_55 : decode cX8_most 55 = .ok (.iload 4, 2) := by decide +kernel
theorem dX8_most_57 : decode cX8_most 57 = .ok (.invokestatic 306, 3) := by decide +kernel
theorem dX8_most_60 : decode cX8_most 60 = .ok (.istore_n 3, 1) := by decide +kernel
theorem dX8_most_61 : decode cX8_most 61 = .ok (.iinc 4 1, 3) := by decide +kernel
theorem dX8_most_64 : decode cX8_most 64 = .ok (.goto (-44), 3) := by decide +kernel
theorem dX8_most_67 : decode cX8_most 67 = .ok (.iload_n 1, 1) := by decide +kernel
theorem dX8_most_68 : decode cX8_most 68 = .ok (.ifCond .ne 7, 3) := by decide +kernel
theorem dX8_most_71 : decode cX8_most 71 = .ok (.iload_n 3, 1) := by decide +kernel
theorem dX8_most_72 : decode cX8_most 72 = .ok (.goto 4, 3) := by decide +kernel
theorem dX8_most_75 : decode cX8_most 75 = .ok (.iload_n 2, 1) := by decide +kernel
theorem dX8_most_76 : decode cX8_most 76 = .ok (.ireturn, 1) := by decide +kernel
theorem dX8_mostUprightSet_0 : decode cX8_mostUprightSet 0 = .ok (.bipush (-4), 2) := by decide +kernel
theorem dX8_mostUprightSet_2 : decode cX8_mostUprightSet 2 = .ok (.istore_n 1, 1) := by decide +kernel
theorem dX8_mostUprightSet_3 : decode cX8_mostUprightSet 3 = .ok (.iconst 0, 1) := by decide +kernel
theorem dX8_mostUprightSet_4 : decode cX8_mostUprightSet 4 = .ok (.istore_n 2, 1) := by decide +kernel
theorem dX8_mostUprightSet_5 : decode cX8_mostUprightSet 5 = .ok (.iconst 0, 1) := by decide +kernel
theorem dX8_mostUprightSet_6 : decode cX8_mostUprightSet 6 = .ok (.istore_n 3, 1) := by decide +kernel
theorem dX8_mostUprightSet_7 : decode cX8_mostUprightSet 7 = .ok (.iload_n 3, 1) := by decide +kernel
theorem dX8_mostUprightSet_8 : decode cX8_mostUprightSet 8 = .ok (.iconst 1, 1) := by decide +kernel
theorem dX8_mostUprightSet_9 : decode cX8_mostUprightSet 9 = .ok (.aload_n 0, 1) := by decide +kernel
theorem dX8_mostUprightSet_10 : decode cX8_mostUprightSet 10 = .ok (.getfield 64, 3) := by decide +kernel
theorem dX8_mostUprightSet_13 : decode cX8_mostUprightSet 13 = .ok (.getfield 297, 3) := by decide +kernel
theorem dX8_mostUprightSet_16 : decode cX8_mostUprightSet 16 = .ok (.ishl, 1) := by decide +kernel
theorem dX8_mostUprightSet_17 : decode cX8_mostUprightSet 17 = .ok (.if_icmp .ge 62, 3) := by decide +kernel
theorem dX8_mostUprightSet_20 : decode cX8_mostUprightSet 20 = .ok (.aload_n 0, 1) := by decide +kernel
theorem dX8_mostUprightSet_21 : decode cX8_mostUprightSet 21 = .ok (.iload_n 3, 1) := by decide +kernel
theorem dX8_mostUprightSet_22 : decode cX8_mostUprightSet 22 = .ok (.invokevirtual 300, 3) := by decide +kernel
theorem dX8_mostUprightSet_25 : decode cX8_mostUprightSet 25 = .ok (.ifCond .eq 48, 3) := by decide +kernel
theorem dX8_mostUprightSet_28 : decode cX8_mostUprightSet 28 = .ok (.aload_n 0, 1) := by decide +kernel
theorem dX8_mostUprightSet_29 : decode cX8_mostUprightSet 29 = .ok (.getfield 44, 3) := by decide +kernel
theorem dX8_mostUprightSet_32 : decode cX8_mostUprightSet 32 = .ok (.getfield 217, 3) := by decide +kernel
theorem dX8_mostUprightSet_35 : decode cX8_mostUprightSet 35 = .ok (.bipush 100, 2) := by decide +kernel
theorem dX8_mostUprightSet_37 : decode cX8_mostUprightSet 37 = .ok (.imul, 1) := by decide +kernel
theorem dX8_mostUprightSet_38 : decode cX8_mostUprightSet 38 = .ok (.aload_n 0, 1) := by decide +kernel
theorem dX8_mostUprightSet_39 : decode cX8_mostUprightSet 39 = .ok (.getfield 44, 3) := by decide +kernel
theorem dX8_mostUprightSet_42 : decode cX8_mostUprightSet 42 = .ok (.getfield 220, 3) := by decide +kernel
theorem dX8_mostUprightSet_45 : decode cX8_mostUprightSet 45 = .ok (.iadd, 1) := by decide +kernel
theorem dX8_mostUprightSet_46 : decode cX8_mostUprightSet 46 = .ok (.bipush 10, 2) := by decide +kernel
theorem dX8_mostUprightSet_48 : decode cX8_mostUprightSet 48 = .ok (.imul, 1) := by decide +kernel
theorem dX8_mostUprightSet_49 : decode cX8_mostUprightSet 49 = .ok (.iload_n 3, 1) := by decide +kernel
theorem dX8_mostUprightSet_50 : decode cX8_mostUprightSet 50 = .ok (.invokestatic 306, 3) := by decide +kernel
theorem dX8_mostUprightSet_53 : decode cX8_mostUprightSet 53 = .ok (.iadd, 1) := by decide +kernel
theorem dX8_mostUprightSet_54 : decode cX8_mostUprightSet 54 = .ok (.istore 4, 2) := by decide +kernel
theorem dX8_mostUprightSet_56 : decode cX8_mostUprightSet 56 = .ok (.iload_n 1, 1) := by decide +kernel
theorem dX8_mostUprightSet_57 : decode cX8_mostUprightSet 57 = .ok (.bipush (-4), 2) := by decide +kernel
theorem dX8_mostUprightSet_59 : decode cX8_mostUprightSet 59 = .ok (.if_icmp .eq 9, 3) := by decide +kernel
theorem dX8_mostUprightSet_62 : decode cX8_mostUprightSet 62 = .ok (.iload 4, 2) := by decide +kernel
theorem dX8_mostUprightSet_64 : decode cX8_mostUprightSet 64 = .ok (.iload_n 2, 1) := by decide +kernel
theorem dX8_mostUprightSet_65 : decode cX8_mostUprightSet 65 = .ok (.if_icmp .ge 8, 3) := by decide +kernel
theorem dX8_mostUprightSet_68 : decode cX8_mostUprightSet 68 = .ok (.iload_n 3, 1) := by decide +kernel
theorem dX8_mostUprightSet_69 : decode cX8_mostUprightSet 69 = .ok (.istore_n 1, 1) := by decide +kernel
theorem dX8_mostUprightSet_70 : decode cX8_mostUprightSet 70 = .ok (.iload 4, 2) := by decide +kernel
theorem dX8_mostUprightSet_72 : decode cX8_mostUprightSet 72 = .ok (.istore_n 2, 1) := by decide +kernel
theorem dX8_mostUprightSet_73 : decode cX8_mostUprightSet 73 = .ok (.iinc 3 1, 3) := by decide +kernel
theorem dX8_mostUprightSet_76 : decode cX8_mostUprightSet 76 = .ok (.goto (-69), 3) := by decide +kernel
theorem dX8_mostUprightSet_79 : decode cX8_mostUprightSet 79 = .ok (.iload_n 1, 1) := by decide +kernel
theorem dX8_mostUprightSet_80 : decode cX8_mostUprightSet 80 = .ok (.ireturn, 1) := by decide +kernel
theorem dX8_now_0 : decode cX8_now 0 = .ok (.aload_n 0, 1) := by decide +kernel
theorem dX8_now_1 : decode cX8_now 1 = .ok (.getfield 44, 3) := by decide +kernel
theorem dX8_now_4 : decode cX8_now 4 = .ok (.aload_n 0, 1) := by decide +kernel
theorem dX8_now_5 : decode cX8_now 5 = .ok (.getfield 64, 3) := by decide +kernel
theorem dX8_now_8 : decode cX8_now 8 = .ok (.aload_n 0, 1) := by decide +kernel
theorem dX8_now_9 : decode cX8_now 9 = .ok (.getfield 19, 3) := by decide +kernel
theorem dX8_now_12 : decode cX8_now 12 = .ok (.getfield 123, 3) := by decide +kernel
theorem dX8_now_15 : decode cX8_now 15 = .ok (.iconst 0, 1) := by decide +kernel
theorem dX8_now_16 : decode cX8_now 16 = .ok (.invokevirtual 207, 3) := by decide +kernel
theorem dX8_now_19 : decode cX8_now 19 = .ok (.iload_n 1, 1) := by decide +kernel
theorem dX8_now_20 : decode cX8_now 20 = .ok (.tableswitch 120 0 7 #[48, 56, 64, 72, 80, 88, 96, 108], 48) := by decide +kernel
theorem dX8_now_68 : decode cX8_now 68 = .ok (.aload_n 0, 1) := by decide +kernel
theorem dX8_now_69 : decode cX8_now 69 = .ok (.getfield 19, 3) := by decide +kernel
theorem dX8_now_72 : decode cX8_now 72 = .ok (.getfield 211, 3) := by decide +kernel
theorem dX8_now_75 : decode cX8_now 75 = .ok (.ireturn, 1) := by decide +kernel
theorem dX8_now_76 : decode cX8_now 76 = .ok (.aload_n 0, 1) := by decide +kernel
theorem dX8_now_77 : decode cX8_now 77 = .ok (.getfield 44, 3) := by decide +kernel
theorem dX8_now_80 : decode cX8_now 80 = .ok (.getfield 214, 3) := by decide +kernel
theorem dX8_now_83 : decode cX8_now 83 = .ok (.ireturn, 1) := by decide +kernel
theorem dX8_now_84 : decode cX8_now 84 = .ok (.aload_n 0, 1) := by decide +kernel
theorem dX8_now_85 : decode cX8_now 85 = .ok (.getfield 44, 3) := by decide +kernel
theorem dX8_now_88 : decode cX8_now 88 = .ok (.getfield 217, 3) := by decide +kernel
theorem dX8_now_91 : decode cX8_now 91 = .ok (.ireturn, 1) := by decide +kernel
theorem dX8_now_92 : decode cX8_now 92 = .ok (.aload_n 0, 1) := by decide +kernel
theorem dX8_now_93 : decode cX8_now 93 = .ok (.getfield 44, 3) := by decide +kernel
theorem dX8_now_96 : decode cX8_now 96 = .ok (.getfield 220, 3) := by decide +kernel
theorem dX8_now_99 : decode cX8_now 99 = .ok (.ireturn, 1) := by decide +kernel
theorem dX8_now_100 : decode cX8_now 100 = .ok (.aload_n 0, 1) := by decide +kernel
theorem dX8_now_101 : decode cX8_now 101 = .ok (.getfield 19, 3) := by decide +kernel
theorem dX8_now_104 : decode cX8_now 104 = .ok (.getfield 194, 3) := by decide +kernel
theorem dX8_now_107 : decode cX8_now 107 = .ok (.ireturn, 1) := by decide +kernel
theorem dX8_now_108 : decode cX8_now 108 = .ok (.aload_n 0, 1) := by decide +kernel
theorem dX8_now_109 : decode cX8_now 109 = .ok (.getfield 19, 3) := by decide +kernel
theorem dX8_now_112 : decode cX8_now 112 = .ok (.getfield 223, 3) := by decide +kernel
theorem dX8_now_115 : decode cX8_now 115 = .ok (.ireturn, 1) := by decide +kernel
theorem dX8_now_116 : decode cX8_now 116 = .ok (.aload_n 0, 1) := by decide +kernel
theorem dX8_now_117 : decode cX8_now 117 = .ok (.getfield 19, 3) := by decide +kernel
theorem dX8_now_120 : decode cX8_now 120 = .ok (.getfield 154, 3) := by decide +kernel
theorem dX8_now_123 : decode cX8_now 123 = .ok (.iconst 1, 1) := by decide +kernel
theorem dX8_now_124 : decode cX8_now 124 = .ok (.invokevirtual 226, 3) := by decide +kernel
theorem dX8_now_127 : decode cX8_now 127 = .ok (.ireturn, 1) := by decide +kernel
theorem dX8_now_128 : decode cX8_now 128 = .ok (.aload_n 0, 1) := by decide +kernel
theorem dX8_now_129 : decode cX8_now 129 = .ok (.getfield 19, 3) := by decide +kernel
theorem dX8_now_132 : decode cX8_now 132 = .ok (.getfield 154, 3) := by decide +kernel
theorem dX8_now_135 : decode cX8_now 135 = .ok (.iconst 3, 1) := by decide +kernel
theorem dX8_now_136 : decode cX8_now 136 = .ok (.invokevirtual 226, 3) := by decide +kernel
theorem dX8_now_139 : decode cX8_now 139 = .ok (.ireturn, 1) := by decide +kernel
theorem dX8_now_140 : decode cX8_now 140 = .ok (.iconst (-1), 1) := by decide +kernel
theorem dX8_now_141 : decode cX8_now 141 = .ok (.ireturn, 1) := by decide +kernel
def f_X8_isOrder (m : Mm) (P : Nat) (a1 : Int32) (a2 : Int32) (a3 : Int32) : Option (Int32) :=
  if a1 = 0 then ((f_X8_isDoor m P a2).bind fun x1 => bG x1) else (if a1 = 1 then ((f_X8_isDoor m P a2).bind fun x3 => bG x3) else (if a1 = 2 then ((f_X8_isHole m P a2).bind fun x5 => bG x5) else (if a1 = 3 then ((f_X8_isPump m P a2).bind fun x7 => if x7 = 0 then (some 0) else (if a3 = ((-4) : Int32) then (some 1) else ((f_X8_isHold m P a3).bind fun x9 => if x9 = 0 then (some 0) else (some 1)))) else (if a1 = 4 then ((f_X8_isHold m P a2).bind fun x11 => if x11 = 0 then (some 0) else (if a3 = 0 then (some 1) else (if a3 = (1 : Int32) then (some 1) else (some 0)))) else (some 0)))))
set_option maxHeartbeats 4000000 in
set_option maxRecDepth 100000 in
theorem ct_X8_isOrder (F : Nat) {n : Nat} (hn : 113 ≤ n) (P D : Nat) (T : Option Nat) (hP : isPl P) (m : Mm) (a1 : Int32) (a2 : Int32) (a3 : Int32) : Ct yX8_isOrder cX8_isOrder 4 (some .boolean) 1 21 [.ref 0, .int a1, .int a2, .int a3] n n m (RF P D T) (rP m (RF P D T) (f_X8_isOrder m P a1 a2 a3)) := by
  refine Ct.ofP (own := RX8) (nm := "isOrder") [(0, .ref 0), (1, .int a1), (2, .int a2), (3, .int a3)] (by decide) (Nat.le_of_ble_eq_true rfl) rfl rfl rfl ?_
  unfold f_X8_isOrder
  refine J_iload_n 1 1 a1 dX8_isOrder_0 rfl rfl ?_
  refine J_split (c1 := 0) (fun hs1_0 => ?_) (fun hs1_0 => ?_)
  · refine J_tsIn 36 hs1_0 dX8_isOrder_1 (by decide) (by decide) rfl (by decide) ?_
    refine J_aload_n 0 0 0 dX8_isOrder_36 rfl rfl ?_
    refine J_iload_n 2 2 a2 dX8_isOrder_37 rfl rfl ?_
    refine J_callVP 0 8 1 [.int a2] dX8_isOrder_38 mv_X8_isDoor mv_X8_isDoorv lk_8_133 (ct_X8_isDoor F hn P D T hP m a2) rfl rfl (by decide) rfl (Nat.lt_of_lt_of_le (Nat.le_of_ble_eq_true rfl) hn) ⟨by decide, by decide⟩ (Nat.le_of_ble_eq_true rfl) (fun x1 => ?_)
    exact J_bretP dX8_isOrder_41 rfl rfl
  · refine J_split (c1 := 1) (fun hs1_1 => ?_) (fun hs1_1 => ?_)
    · refine J_tsIn 36 hs1_1 dX8_isOrder_1 (by decide) (by decide) rfl (by decide) ?_
      refine J_aload_n 0 0 0 dX8_isOrder_36 rfl rfl ?_
      refine J_iload_n 2 2 a2 dX8_isOrder_37 rfl rfl ?_
      refine J_callVP 0 8 1 [.int a2] dX8_isOrder_38 mv_X8_isDoor mv_X8_isDoorv lk_8_133 (ct_X8_isDoor F hn P D T hP m a2) rfl rfl (by decide) rfl (Nat.lt_of_lt_of_le (Nat.le_of_ble_eq_true rfl) hn) ⟨by decide, by decide⟩ (Nat.le_of_ble_eq_true rfl) (fun x3 => ?_)
      exact J_bretP dX8_isOrder_41 rfl rfl
    · refine J_split (c1 := 2) (fun hs1_2 => ?_) (fun hs1_2 => ?_)
      · refine J_tsIn 42 hs1_2 dX8_isOrder_1 (by decide) (by decide) rfl (by decide) ?_
        refine J_aload_n 0 0 0 dX8_isOrder_42 rfl rfl ?_
        refine J_iload_n 2 2 a2 dX8_isOrder_43 rfl rfl ?_
        refine J_callVP 0 8 1 [.int a2] dX8_isOrder_44 mv_X8_isHole mv_X8_isHolev lk_8_163 (ct_X8_isHole F hn P D T hP m a2) rfl rfl (by decide) rfl (Nat.lt_of_lt_of_le (Nat.le_of_ble_eq_true rfl) hn) ⟨by decide, by decide⟩ (Nat.le_of_ble_eq_true rfl) (fun x5 => ?_)
        exact J_bretP dX8_isOrder_47 rfl rfl
      · refine J_split (c1 := 3) (fun hs1_3 => ?_) (fun hs1_3 => ?_)
        · refine J_tsIn 48 hs1_3 dX8_isOrder_1 (by decide) (by decide) rfl (by decide) ?_
          refine J_aload_n 0 0 0 dX8_isOrder_48 rfl rfl ?_
          refine J_iload_n 2 2 a2 dX8_isOrder_49 rfl rfl ?_
          refine J_callVP 0 8 1 [.int a2] dX8_isOrder_50 mv_X8_isPump mv_X8_isPumpv lk_8_182 (ct_X8_isPump F hn P D T hP m a2) rfl rfl (by decide) rfl (Nat.lt_of_lt_of_le (Nat.le_of_ble_eq_true rfl) hn) ⟨by decide, by decide⟩ (Nat.le_of_ble_eq_true rfl) (fun x7 => ?_)
          refine J_if_eq 74 dX8_isOrder_53 (by decide) ?_ ?_
          · refine J_iconst 0 dX8_isOrder_74 (by decide) ?_
            exact J_zretP dX8_isOrder_75 rfl rfl rfl
          · refine J_iload_n 3 3 a3 dX8_isOrder_56 rfl rfl ?_
            refine J_bipush (-4) dX8_isOrder_57 (by decide) ?_
            refine J_icmp_eq 70 dX8_isOrder_59 (by decide) ?_ ?_
            · refine J_iconst 1 dX8_isOrder_70 (by decide) ?_
              refine J_goto 75 dX8_isOrder_71 (by decide) ?_
              exact J_zretP dX8_isOrder_75 rfl rfl rfl
            · refine J_aload_n 0 0 0 dX8_isOrder_62 rfl rfl ?_
              refine J_iload_n 3 3 a3 dX8_isOrder_63 rfl rfl ?_
              refine J_callVP 0 8 1 [.int a3] dX8_isOrder_64 mv_X8_isHold mv_X8_isHoldv lk_8_109 (ct_X8_isHold F hn P D T hP m a3) rfl rfl (by decide) rfl (Nat.lt_of_lt_of_le (Nat.le_of_ble_eq_true rfl) hn) ⟨by decide, by decide⟩ (Nat.le_of_ble_eq_true rfl) (fun x9 => ?_)
              refine J_if_eq 74 dX8_isOrder_67 (by decide) ?_ ?_
              · refine J_iconst 0 dX8_isOrder_74 (by decide) ?_
                exact J_zretP dX8_isOrder_75 rfl rfl rfl
              · refine J_iconst 1 dX8_isOrder_70 (by decide) ?_
                refine J_goto 75 dX8_isOrder_71 (by decide) ?_
                exact J_zretP dX8_isOrder_75 rfl rfl rfl
        · refine J_split (c1 := 4) (fun hs1_4 => ?_) (fun hs1_4 => ?_)
          · refine J_tsIn 76 hs1_4 dX8_isOrder_1 (by decide) (by decide) rfl (by decide) ?_
            refine J_aload_n 0 0 0 dX8_isOrder_76 rfl rfl ?_
            refine J_iload_n 2 2 a2 dX8_isOrder_77 rfl rfl ?_
            refine J_callVP 0 8 1 [.int a2] dX8_isOrder_78 mv_X8_isHold mv_X8_isHoldv lk_8_109 (ct_X8_isHold F hn P D T hP m a2) rfl rfl (by decide) rfl (Nat.lt_of_lt_of_le (Nat.le_of_ble_eq_true rfl) hn) ⟨by decide, by decide⟩ (Nat.le_of_ble_eq_true rfl) (fun x11 => ?_)
            refine J_if_eq 97 dX8_isOrder_81 (by decide) ?_ ?_
            · refine J_iconst 0 dX8_isOrder_97 (by decide) ?_
              exact J_zretP dX8_isOrder_98 rfl rfl rfl
            · refine J_iload_n 3 3 a3 dX8_isOrder_84 rfl rfl ?_
              refine J_if_eq 93 dX8_isOrder_85 (by decide) ?_ ?_
              · refine J_iconst 1 dX8_isOrder_93 (by decide) ?_
                refine J_goto 98 dX8_isOrder_94 (by decide) ?_
                exact J_zretP dX8_isOrder_98 rfl rfl rfl
              · refine J_iload_n 3 3 a3 dX8_isOrder_88 rfl rfl ?_
                refine J_iconst 1 dX8_isOrder_89 (by decide) ?_
                refine J_icmp_ne 97 dX8_isOrder_90 (by decide) ?_ ?_
                · refine J_iconst 0 dX8_isOrder_97 (by decide) ?_
                  exact J_zretP dX8_isOrder_98 rfl rfl rfl
                · refine J_iconst 1 dX8_isOrder_93 (by decide) ?_
                  refine J_goto 98 dX8_isOrder_94 (by decide) ?_
                  exact J_zretP dX8_isOrder_98 rfl rfl rfl
          · refine J_tsOut 99 dX8_isOrder_1 (ts_out [0, 1, 2, 3, 4] (by decide) (by simp only [List.mem_cons, List.not_mem_nil, or_false, forall_eq_or_imp, forall_eq]; exact ⟨hs1_0, hs1_1, hs1_2, hs1_3, hs1_4⟩)) (by decide) ?_
            refine J_iconst 0 dX8_isOrder_99 (by decide) ?_
            exact J_zretP dX8_isOrder_100 rfl rfl rfl
def f_X8_keep (m : Mm) (a1 : Int32) : Option (Int32 × Mm) :=
  if a1 < 0 then (some ((-1), m)) else (if a1 < (2 : Int32) then ((ald m 33 2 a1).bind fun x1 => (if x1 = 0 then (some 0) else (some 1) : Option (Int32)).bind fun y2 => (imgOf a1).bind fun b3 => (f_X7_copyFrom m b3 4).bind fun m5 => (ast m5 33 2 a1 (vp_nar .boolean 1)).bind fun m6 => some (y2, m6)) else (some ((-1), m)))
set_option maxHeartbeats 4000000 in
set_option maxRecDepth 100000 in
theorem ct_X8_keep (F : Nat) {n : Nat} (hn : 113 ≤ n) (P D : Nat) (T : Option Nat) (m : Mm) (a1 : Int32) : Ct yX8_keep cX8_keep 3 (some .int) 3 68 [.ref 0, .int a1] n n m (RF P D T) (rI (RF P D T) (f_X8_keep m a1)) := by
  refine Ct.ofI (own := RX8) (nm := "keep") [(0, .ref 0), (1, .int a1)] (by decide) (Nat.le_of_ble_eq_true rfl) rfl rfl rfl ?_
  unfold f_X8_keep
  refine J_iload_n 1 1 a1 dX8_keep_0 rfl rfl ?_
  refine J_if_lt 9 dX8_keep_1 (by decide) ?_ ?_
  · refine J_iconst (-1) dX8_keep_9 (by decide) ?_
    exact J_iretI dX8_keep_10 rfl rfl
  · refine J_iload_n 1 1 a1 dX8_keep_4 rfl rfl ?_
    refine J_iconst 2 dX8_keep_5 (by decide) ?_
    refine J_icmp_lt 11 dX8_keep_6 (by decide) ?_ ?_
    · refine J_aload_n 0 0 0 dX8_keep_11 rfl rfl ?_
      refine J_getR 0 8 4 33 dX8_keep_12 fl_8_30 rfl rfl (Nat.lt_of_lt_of_le (Nat.le_of_ble_eq_true rfl) hn) rfl ?_
      refine J_iload_n 1 1 a1 dX8_keep_15 rfl rfl ?_
      refine J_zald 33 2 dX8_keep_16 rfl (Nat.lt_of_lt_of_le (Nat.le_of_ble_eq_true rfl) hn) (fun x1 => ?_)
      refine J_seqJ 25 (fun y2 : Int32 => [(0, .ref 0), (1, .int a1)]) (fun y2 => [.int y2]) (fun y2 => m) (fun y2 => ?_) (fun k1 hEy2 => ?_)
      · refine J_istore_n 2 [(2, .int y2), (0, .ref 0), (1, .int a1)] dX8_keep_25 rfl (by decide) rfl ?_
        refine J_aload_n 0 1 0 dX8_keep_26 rfl rfl ?_
        refine J_getR 0 8 3 32 dX8_keep_27 fl_8_26 rfl rfl (Nat.lt_of_lt_of_le (Nat.le_of_ble_eq_true rfl) hn) rfl ?_
        refine J_iload_n 1 2 a1 dX8_keep_30 rfl rfl ?_
        rw [← imgOf_eq P D T]
        refine J_aald 32 2 23 3 dX8_keep_31 rfl (by decide) (fun _ => rfl) (Nat.lt_of_lt_of_le (Nat.le_of_ble_eq_true rfl) hn) (fun b3 hb3 => ?_)
        replace hb3 := st_img hb3
        refine J_aload_n 0 1 0 dX8_keep_32 rfl rfl ?_
        refine J_getR 0 8 1 4 dX8_keep_33 fl_8_19 rfl rfl (Nat.lt_of_lt_of_le (Nat.le_of_ble_eq_true rfl) hn) rfl ?_
        refine J_callVV b3 7 1 [.ref 4] dX8_keep_36 mv_X7_copyFrom mv_X7_copyFromv lk_8_229 (ct_X7_copyFrom F hn P D T m b3 hb3 4 (by simp [isSt])) rfl (layc_St_0 hb3) (by decide) rfl (lt_St_0 hb3 hn) ⟨by decide, by decide⟩ (Nat.le_of_ble_eq_true rfl) (fun m5 => ?_)
        refine J_aload_n 0 1 0 dX8_keep_39 rfl rfl ?_
        refine J_getR 0 8 4 33 dX8_keep_40 fl_8_30 rfl rfl (Nat.lt_of_lt_of_le (Nat.le_of_ble_eq_true rfl) hn) rfl ?_
        refine J_iload_n 1 2 a1 dX8_keep_43 rfl rfl ?_
        refine J_iconst 1 dX8_keep_44 (by decide) ?_
        refine J_zast 33 2 dX8_keep_45 rfl (Nat.lt_of_lt_of_le (Nat.le_of_ble_eq_true rfl) hn) (fun m6 => ?_)
        refine J_iload_n 2 0 y2 dX8_keep_46 rfl rfl ?_
        exact J_iretI dX8_keep_47 rfl rfl
      · refine J_if_eq 24 dX8_keep_17 (by decide) ?_ ?_
        · refine J_iconst 0 dX8_keep_24 (by decide) ?_
          exact J_lv [0, 1] rfl (hEy2 0)
        · refine J_iconst 1 dX8_keep_20 (by decide) ?_
          refine J_goto 25 dX8_keep_21 (by decide) ?_
          exact J_lv [0, 1] rfl (hEy2 1)
    · refine J_iconst (-1) dX8_keep_9 (by decide) ?_
      exact J_iretI dX8_keep_10 rfl rfl
def b_X8_latest_34 (F : Nat) (P : Nat) (a1 : Int32) (a2 : Int32) (t5 : Int32 × Mm) : Option ((Int32 × Mm) ⊕ ((Int32 × Mm) ⊕ (Mm))) :=
  if t5.1 < 0 then (some (Sum.inr (Sum.inr (t5.2)))) else (bind2 (f_X8_minutesIfShut F t5.2 P a1 t5.1 a2) fun x8 m9 => if x8 = ((-4) : Int32) then (some (Sum.inr (Sum.inl ((t5.1, m9))))) else (some (Sum.inl (t5.1 + (-1), m9))))
def f_X8_latest (F : Nat) (m : Mm) (P : Nat) (a1 : Int32) (a2 : Int32) : Option (Int32 × Mm) :=
  (f_X8_isDoor m P a1).bind fun x1 => if x1 = 0 then (some ((-1), m)) else (if a2 < (1 : Int32) then (some ((-1), m)) else (if a2 ≤ (60 : Int32) then ((f_X8_isOpenAndIdle F m a1).bind fun x3 => if x3 = 0 then (some ((-2), m)) else ((iter F (b_X8_latest_34 F P a1 a2) ((a2, m) : Int32 × Mm)).bind (Sum.elim (fun e6 : Int32 × Mm => some (e6.1, e6.2)) (fun e7 : Mm => some ((-4), e7))))) else (some ((-1), m))))
set_option maxHeartbeats 4000000 in
set_option maxRecDepth 100000 in
theorem ct_X8_latest (F : Nat) {n : Nat} (hn : 113 ≤ n) (P D : Nat) (T : Option Nat) (hP : isPl P) (m : Mm) (a1 : Int32) (a2 : Int32) : Ct yX8_latest cX8_latest 4 (some .int) 6 138 [.ref 0, .int a1, .int a2] n n m (RF P D T) (rI (RF P D T) (f_X8_latest F m P a1 a2)) := by
  refine Ct.ofI (own := RX8) (nm := "latest") [(0, .ref 0), (1, .int a1), (2, .int a2)] (by decide) (Nat.le_of_ble_eq_true rfl) rfl rfl rfl ?_
  unfold f_X8_latest
  refine J_aload_n 0 0 0 dX8_latest_0 rfl rfl ?_
  refine J_iload_n 1 1 a1 dX8_latest_1 rfl rfl ?_
  refine J_callVP 0 8 1 [.int a1] dX8_latest_2 mv_X8_isDoor mv_X8_isDoorv lk_8_133 (ct_X8_isDoor F hn P D T hP m a1) rfl rfl (by decide) rfl (Nat.lt_of_lt_of_le (Nat.le_of_ble_eq_true rfl) hn) ⟨by decide, by decide⟩ (Nat.le_of_ble_eq_true rfl) (fun x1 => ?_)
  refine J_if_eq 19 dX8_latest_5 (by decide) ?_ ?_
  · refine J_iconst (-1) dX8_latest_19 (by decide) ?_
    exact J_iretI dX8_latest_20 rfl rfl
  · refine J_iload_n 2 2 a2 dX8_latest_8 rfl rfl ?_
    refine J_iconst 1 dX8_latest_9 (by decide) ?_
    refine J_icmp_lt 19 dX8_latest_10 (by decide) ?_ ?_
    · refine J_iconst (-1) dX8_latest_19 (by decide) ?_
      exact J_iretI dX8_latest_20 rfl rfl
    · refine J_iload_n 2 2 a2 dX8_latest_13 rfl rfl ?_
      refine J_bipush 60 dX8_latest_14 (by decide) ?_
      refine J_icmp_le 21 dX8_latest_16 (by decide) ?_ ?_
      · refine J_aload_n 0 0 0 dX8_latest_21 rfl rfl ?_
        refine J_iload_n 1 1 a1 dX8_latest_22 rfl rfl ?_
        refine J_callVP 0 8 1 [.int a1] dX8_latest_23 mv_X8_isOpenAndIdle mv_X8_isOpenAndIdlev lk_8_283 (ct_X8_isOpenAndIdle F hn P D T m a1) rfl rfl (by decide) rfl (Nat.lt_of_lt_of_le (Nat.le_of_ble_eq_true rfl) hn) ⟨by decide, by decide⟩ (Nat.le_of_ble_eq_true rfl) (fun x3 => ?_)
        refine J_if_ne 32 dX8_latest_26 (by decide) ?_ ?_
        · refine J_iload_n 2 2 a2 dX8_latest_32 rfl rfl ?_
          refine J_istore_n 3 [(3, .int a2), (0, .ref 0), (1, .int a1), (2, .int a2)] dX8_latest_33 rfl (by decide) rfl ?_
          refine J_lv [1, 2, 3, 0] rfl ?_
          refine J_loop (pc := 34) (fun t5 : Int32 × Mm => [(0, .ref 0), (1, .int a1), (2, .int a2), (3, .int t5.1)]) (fun t5 => t5.2) (Sum.elim (fun _ => 50) (fun _ => 58)) (Sum.elim (fun e6 : Int32 × Mm => [(3, .int e6.1)]) (fun e7 : Mm => [])) (fun _ => []) (Sum.elim (fun e6 : Int32 × Mm => e6.2) (fun e7 : Mm => e7)) ?_ (fun t5 k1 hBt5 hXt5 => ?_) F ((a2, m))
          · refine sum_all ?_ ?_
            · intro e6
              dsimp only [Sum.elim_inl, Sum.elim_inr]
              refine J_iload_n 3 0 e6.1 dX8_latest_50 rfl rfl ?_
              exact J_iretI dX8_latest_51 rfl rfl
            · intro e7
              dsimp only [Sum.elim_inl, Sum.elim_inr]
              refine J_bipush (-4) dX8_latest_58 (by decide) ?_
              exact J_iretI dX8_latest_60 rfl rfl
          · unfold b_X8_latest_34
            refine J_iload_n 3 3 t5.1 dX8_latest_34 rfl rfl ?_
            refine J_if_lt 58 dX8_latest_35 (by decide) ?_ ?_
            · exact J_lv [] rfl (hXt5 (Sum.inr (t5.2)))
            · refine J_aload_n 0 0 0 dX8_latest_38 rfl rfl ?_
              refine J_iload_n 1 1 a1 dX8_latest_39 rfl rfl ?_
              refine J_iload_n 3 3 t5.1 dX8_latest_40 rfl rfl ?_
              refine J_iload_n 2 2 a2 dX8_latest_41 rfl rfl ?_
              refine J_callVI 0 8 3 [.int a1, .int t5.1, .int a2] dX8_latest_42 mv_X8_minutesIfShut mv_X8_minutesIfShutv lk_8_286 (ct_X8_minutesIfShut F hn P D T hP t5.2 a1 t5.1 a2) rfl rfl (by decide) rfl (Nat.lt_of_lt_of_le (Nat.le_of_ble_eq_true rfl) hn) ⟨by decide, by decide⟩ (Nat.le_of_ble_eq_true rfl) (fun x8 m9 => ?_)
              refine J_bipush (-4) dX8_latest_45 (by decide) ?_
              refine J_icmp_ne 52 dX8_latest_47 (by decide) ?_ ?_
              · refine J_iinc 3 3 [(3, .int (t5.1 + (-1))), (0, .ref 0), (1, .int a1), (2, .int a2)] t5.1 (t5.1 + (-1)) dX8_latest_52 rfl rfl (by decide) rfl ?_
                refine J_goto 34 dX8_latest_55 (by decide) ?_
                exact J_lv [1, 2, 3, 0] rfl (hBt5 (t5.1 + (-1), m9))
              · exact J_lv [3] rfl (hXt5 (Sum.inl ((t5.1, m9))))
        · refine J_bipush (-2) dX8_latest_29 (by decide) ?_
          exact J_iretI dX8_latest_31 rfl rfl
      · refine J_iconst (-1) dX8_latest_19 (by decide) ?_
        exact J_iretI dX8_latest_20 rfl rfl
def f_X8_lay (m : Mm) (a1 : Int32) (a2 : Int32) (a3 : Int32) : Option (Int32 × Mm) :=
  if a1 < 0 then (some ((-1), m)) else (if a1 < (4 : Int32) then ((shtOf a1).bind fun b1 => (shtOf a1).bind fun b2 => (f_X5_tearAt m b1 (m b2 0) a2 1).bind fun x3 => if x3 = 0 then ((shtOf a1).bind fun b5 => (f_X5_store m b5 a2 a3).bind fun m7 => some (1, m7)) else (some (((-10) : Int32) - x3, m))) else (some ((-1), m)))
set_option maxHeartbeats 4000000 in
set_option maxRecDepth 100000 in
theorem ct_X8_lay (F : Nat) {n : Nat} (hn : 113 ≤ n) (P D : Nat) (T : Option Nat) (m : Mm) (a1 : Int32) (a2 : Int32) (a3 : Int32) : Ct yX8_lay cX8_lay 5 (some .int) 1 23 [.ref 0, .int a1, .int a2, .int a3] n n m (RF P D T) (rI (RF P D T) (f_X8_lay m a1 a2 a3)) := by
  refine Ct.ofI (own := RX8) (nm := "lay") [(0, .ref 0), (1, .int a1), (2, .int a2), (3, .int a3)] (by decide) (Nat.le_of_ble_eq_true rfl) rfl rfl rfl ?_
  unfold f_X8_lay
  refine J_iload_n 1 1 a1 dX8_lay_0 rfl rfl ?_
  refine J_if_lt 9 dX8_lay_1 (by decide) ?_ ?_
  · refine J_iconst (-1) dX8_lay_9 (by decide) ?_
    exact J_iretI dX8_lay_10 rfl rfl
  · refine J_iload_n 1 1 a1 dX8_lay_4 rfl rfl ?_
    refine J_iconst 4 dX8_lay_5 (by decide) ?_
    refine J_icmp_lt 11 dX8_lay_6 (by decide) ?_ ?_
    · refine J_aload_n 0 0 0 dX8_lay_11 rfl rfl ?_
      refine J_getR 0 8 8 42 dX8_lay_12 fl_8_57 rfl rfl (Nat.lt_of_lt_of_le (Nat.le_of_ble_eq_true rfl) hn) rfl ?_
      refine J_iload_n 1 1 a1 dX8_lay_15 rfl rfl ?_
      rw [← shtOf_eq P D T]
      refine J_aald 42 4 24 4 dX8_lay_16 rfl (by decide) (fun _ => rfl) (Nat.lt_of_lt_of_le (Nat.le_of_ble_eq_true rfl) hn) (fun b1 hb1 => ?_)
      replace hb1 := sh_sheets hb1
      refine J_aload_n 0 0 0 dX8_lay_17 rfl rfl ?_
      refine J_getR 0 8 8 42 dX8_lay_18 fl_8_57 rfl rfl (Nat.lt_of_lt_of_le (Nat.le_of_ble_eq_true rfl) hn) rfl ?_
      refine J_iload_n 1 1 a1 dX8_lay_21 rfl rfl ?_
      try rw [← shtOf_eq P D T]
      refine J_aald 42 4 24 4 dX8_lay_22 rfl (by decide) (fun _ => rfl) (Nat.lt_of_lt_of_le (Nat.le_of_ble_eq_true rfl) hn) (fun b2 hb2 => ?_)
      replace hb2 := sh_sheets hb2
      refine J_getI b2 5 0 dX8_lay_23 fl_8_337 (layc_Sh_0 hb2) rfl (lt_Sh_0 hb2 hn) ?_
      refine J_iload_n 2 2 a2 dX8_lay_26 rfl rfl ?_
      refine J_iconst 1 dX8_lay_27 (by decide) ?_
      refine J_callVP b1 5 3 [.int (m b2 0), .int a2, .int 1] dX8_lay_28 mv_X5_tearAt mv_X5_tearAtv lk_8_340 (ct_X5_tearAt F hn P D T m b1 hb1 (m b2 0) a2 1) rfl (layc_Sh_0 hb1) (by decide) rfl (lt_Sh_0 hb1 hn) ⟨by decide, by decide⟩ (Nat.le_of_ble_eq_true rfl) (fun x3 => ?_)
      refine J_istore 4 [(4, .int x3), (0, .ref 0), (1, .int a1), (2, .int a2), (3, .int a3)] dX8_lay_31 (by decide) rfl ?_
      refine J_iload 4 0 x3 dX8_lay_33 rfl ?_
      refine J_if_eq 44 dX8_lay_35 (by decide) ?_ ?_
      · refine J_aload_n 0 1 0 dX8_lay_44 rfl rfl ?_
        refine J_getR 0 8 8 42 dX8_lay_45 fl_8_57 rfl rfl (Nat.lt_of_lt_of_le (Nat.le_of_ble_eq_true rfl) hn) rfl ?_
        refine J_iload_n 1 2 a1 dX8_lay_48 rfl rfl ?_
        try rw [← shtOf_eq P D T]
        refine J_aald 42 4 24 4 dX8_lay_49 rfl (by decide) (fun _ => rfl) (Nat.lt_of_lt_of_le (Nat.le_of_ble_eq_true rfl) hn) (fun b5 hb5 => ?_)
        replace hb5 := sh_sheets hb5
        refine J_iload_n 2 3 a2 dX8_lay_50 rfl rfl ?_
        refine J_iload_n 3 4 a3 dX8_lay_51 rfl rfl ?_
        refine J_callVV b5 5 2 [.int a2, .int a3] dX8_lay_52 mv_X5_store mv_X5_storev lk_8_343 (ct_X5_store F hn P D T m b5 hb5 a2 a3) rfl (layc_Sh_0 hb5) (by decide) rfl (lt_Sh_0 hb5 hn) ⟨by decide, by decide⟩ (Nat.le_of_ble_eq_true rfl) (fun m7 => ?_)
        refine J_iconst 1 dX8_lay_55 (by decide) ?_
        exact J_iretI dX8_lay_56 rfl rfl
      · refine J_bipush (-10) dX8_lay_38 (by decide) ?_
        refine J_iload 4 0 x3 dX8_lay_40 rfl ?_
        refine J_isub dX8_lay_42 ?_
        exact J_iretI dX8_lay_43 rfl rfl
    · refine J_iconst (-1) dX8_lay_9 (by decide) ?_
      exact J_iretI dX8_lay_10 rfl rfl
def f_X8_men (F : Nat) (m : Mm) (P : Nat) (a1 : Int32) : Option (Int32) :=
  if a1 < 0 then (some (-1)) else (if a1 < ((1 : Int32) <<< ((m P 1) &&& 31)) then (letv (((1 : Int32) <<< ((m P 0) &&& 31)) - (1 : Int32)) fun x1 => (ald m (P + 16) 5 4).bind fun x2 => (f_X8_openDoors F m P).bind fun x3 => (f_X8_reachedFrom F m P ((1 : Int32) <<< (x2 &&& 31)) (x3 &&& (a1 ^^^ ((-1) : Int32)))).bind fun x5 => some (x1 &&& (x5 ^^^ ((-1) : Int32)))) else (some (-1)))
set_option maxHeartbeats 4000000 in
set_option maxRecDepth 100000 in
theorem ct_X8_men (F : Nat) {n : Nat} (hn : 113 ≤ n) (P D : Nat) (T : Option Nat) (hP : isPl P) (m : Mm) (a1 : Int32) : Ct yX8_men cX8_men 3 (some .int) 1 26 [.ref 0, .int a1] n n m (RF P D T) (rP m (RF P D T) (f_X8_men F m P a1)) := by
  refine Ct.ofP (own := RX8) (nm := "men") [(0, .ref 0), (1, .int a1)] (by decide) (Nat.le_of_ble_eq_true rfl) rfl rfl rfl ?_
  unfold f_X8_men
  refine J_iload_n 1 1 a1 dX8_men_0 rfl rfl ?_
  refine J_if_lt 17 dX8_men_1 (by decide) ?_ ?_
  · refine J_iconst (-1) dX8_men_17 (by decide) ?_
    exact J_iretP dX8_men_18 rfl rfl
  · refine J_iload_n 1 1 a1 dX8_men_4 rfl rfl ?_
    refine J_iconst 1 dX8_men_5 (by decide) ?_
    refine J_aload_n 0 0 0 dX8_men_6 rfl rfl ?_
    refine J_getR 0 8 9 P dX8_men_7 fl_8_64 rfl rfl (Nat.lt_of_lt_of_le (Nat.le_of_ble_eq_true rfl) hn) rfl ?_
    refine J_getI P 1 1 dX8_men_10 fl_8_290 (layc_Pl_0 hP) rfl (lt_Pl_0 hP hn) ?_
    refine J_ishl dX8_men_13 ?_
    refine J_icmp_lt 19 dX8_men_14 (by decide) ?_ ?_
    · refine J_iconst 1 dX8_men_19 (by decide) ?_
      refine J_aload_n 0 0 0 dX8_men_20 rfl rfl ?_
      refine J_getR 0 8 9 P dX8_men_21 fl_8_64 rfl rfl (Nat.lt_of_lt_of_le (Nat.le_of_ble_eq_true rfl) hn) rfl ?_
      refine J_getI P 1 0 dX8_men_24 fl_8_297 (layc_Pl_0 hP) rfl (lt_Pl_0 hP hn) ?_
      refine J_ishl dX8_men_27 ?_
      refine J_iconst 1 dX8_men_28 (by decide) ?_
      refine J_isub dX8_men_29 ?_
      refine J_let (fun x1 => ?_)
      refine J_istore_n 2 [(2, .int x1), (0, .ref 0), (1, .int a1)] dX8_men_30 rfl (by decide) rfl ?_
      refine J_iload_n 2 0 x1 dX8_men_31 rfl rfl ?_
      refine J_aload_n 0 1 0 dX8_men_32 rfl rfl ?_
      refine J_iconst 1 dX8_men_33 (by decide) ?_
      refine J_aload_n 0 1 0 dX8_men_34 rfl rfl ?_
      refine J_getR 0 8 9 P dX8_men_35 fl_8_64 rfl rfl (Nat.lt_of_lt_of_le (Nat.le_of_ble_eq_true rfl) hn) rfl ?_
      refine J_getR P 1 19 (P + 16) dX8_men_38 fl_8_191 (layc_Pl_0 hP) rfl (lt_Pl_0 hP hn) (rf_Pl_0_19 hP) ?_
      refine J_iconst 4 dX8_men_41 (by decide) ?_
      refine J_iald (P + 16) 5 dX8_men_42 (lay_Pl_16 hP) (lt_Pl_16 hP hn) (fun x2 => ?_)
      refine J_ishl dX8_men_43 ?_
      refine J_aload_n 0 1 0 dX8_men_44 rfl rfl ?_
      refine J_callVP 0 8 0 [] dX8_men_45 mv_X8_openDoors mv_X8_openDoorsv lk_8_314 (ct_X8_openDoors F hn P D T hP m) rfl rfl (by decide) rfl (Nat.lt_of_lt_of_le (Nat.le_of_ble_eq_true rfl) hn) ⟨by decide, by decide⟩ (Nat.le_of_ble_eq_true rfl) (fun x3 => ?_)
      refine J_iload_n 1 2 a1 dX8_men_48 rfl rfl ?_
      refine J_iconst (-1) dX8_men_49 (by decide) ?_
      refine J_ixor dX8_men_50 ?_
      refine J_iand dX8_men_51 ?_
      refine J_callVP 0 8 2 [.int ((1 : Int32) <<< (x2 &&& 31)), .int (x3 &&& (a1 ^^^ ((-1) : Int32)))] dX8_men_52 mv_X8_reachedFrom mv_X8_reachedFromv lk_8_317 (ct_X8_reachedFrom F hn P D T hP m ((1 : Int32) <<< (x2 &&& 31)) (x3 &&& (a1 ^^^ ((-1) : Int32)))) rfl rfl (by decide) rfl (Nat.lt_of_lt_of_le (Nat.le_of_ble_eq_true rfl) hn) ⟨by decide, by decide⟩ (Nat.le_of_ble_eq_true rfl) (fun x5 => ?_)
      refine J_iconst (-1) dX8_men_55 (by decide) ?_
      refine J_ixor dX8_men_56 ?_
      refine J_iand dX8_men_57 ?_
      exact J_iretP dX8_men_58 rfl rfl
    · refine J_iconst (-1) dX8_men_17 (by decide) ?_
      exact J_iretP dX8_men_18 rfl rfl
def b_X8_most_20 (F : Nat) (P : Nat) (t1 : Int32 × Int32 × Int32 × Mm) : Option ((Int32 × Int32 × Int32 × Mm) ⊕ (Int32 × Int32 × Mm)) :=
  if ((1 : Int32) <<< ((t1.2.2.2 P 0) &&& 31)) ≤ t1.2.2.1 then (some (Sum.inr ((t1.1, t1.2.1, t1.2.2.2)))) else ((f_J6_bitCount t1.2.2.1).bind fun x3 => (if x3 ≤ t1.2.1 then (some (t1.1, t1.2.1, t1.2.2.2)) else (bind2 (f_X8_floatsWithFull F t1.2.2.2 P t1.2.2.1) fun x6 m7 => if x6 = 0 then (some (t1.1, t1.2.1, m7)) else ((f_J6_bitCount t1.2.2.1).bind fun x8 => some (t1.2.2.1, x8, m7))) : Option (Int32 × Int32 × Mm)).bind fun y5 => some (Sum.inl (y5.1, y5.2.1, t1.2.2.1 + 1, y5.2.2)))
def f_X8_most (F : Nat) (m : Mm) (P : Nat) (a1 : Int32) : Option (Int32 × Mm) :=
  if a1 < 0 then (some ((-1), m)) else (if a1 ≤ (1 : Int32) then ((iter F (b_X8_most_20 F P) (((-4), (-4), 0, m) : Int32 × Int32 × Int32 × Mm)).bind (fun e2 : Int32 × Int32 × Mm => if a1 = 0 then (some (e2.2.1, e2.2.2)) else (some (e2.1, e2.2.2)))) else (some ((-1), m)))
set_option maxHeartbeats 4000000 in
set_option maxRecDepth 100000 in
theorem ct_X8_most (F : Nat) {n : Nat} (hn : 113 ≤ n) (P D : Nat) (T : Option Nat) (hP : isPl P) (m : Mm) (a1 : Int32) : Ct yX8_most cX8_most 5 (some .int) 3 69 [.ref 0, .int a1] n n m (RF P D T) (rI (RF P D T) (f_X8_most F m P a1)) := by
  refine Ct.ofI (own := RX8) (nm := "most") [(0, .ref 0), (1, .int a1)] (by decide) (Nat.le_of_ble_eq_true rfl) rfl rfl rfl ?_
  unfold f_X8_most
  refine J_iload_n 1 1 a1 dX8_most_0 rfl rfl ?_
  refine J_if_lt 9 dX8_most_1 (by decide) ?_ ?_
  · refine J_iconst (-1) dX8_most_9 (by decide) ?_
    exact J_iretI dX8_most_10 rfl rfl
  · refine J_iload_n 1 1 a1 dX8_most_4 rfl rfl ?_
    refine J_iconst 1 dX8_most_5 (by decide) ?_
    refine J_icmp_le 11 dX8_most_6 (by decide) ?_ ?_
    · refine J_bipush (-4) dX8_most_11 (by decide) ?_
      refine J_istore_n 2 [(2, .int (-4)), (0, .ref 0), (1, .int a1)] dX8_most_13 rfl (by decide) rfl ?_
      refine J_bipush (-4) dX8_most_14 (by decide) ?_
      refine J_istore_n 3 [(3, .int (-4)), (2, .int (-4)), (0, .ref 0), (1, .int a1)] dX8_most_16 rfl (by decide) rfl ?_
      refine J_iconst 0 dX8_most_17 (by decide) ?_
      refine J_istore 4 [(4, .int 0), (3, .int (-4)), (2, .int (-4)), (0, .ref 0), (1, .int a1)] dX8_most_18 (by decide) rfl ?_
      refine J_lv [3, 4, 2, 1, 0] rfl ?_
      refine J_loop (pc := 20) (fun t1 : Int32 × Int32 × Int32 × Mm => [(0, .ref 0), (1, .int a1), (2, .int t1.1), (3, .int t1.2.1), (4, .int t1.2.2.1)]) (fun t1 => t1.2.2.2) (fun _ => 67) (fun e2 => [(1, .int a1), (2, .int e2.1), (3, .int e2.2.1)]) (fun _ => []) (fun e2 => e2.2.2) ?_ (fun t1 k1 hBt1 hXt1 => ?_) F (((-4), (-4), 0, m))
      · refine fun e2 => ?_
        refine J_iload_n 1 0 a1 dX8_most_67 rfl rfl ?_
        refine J_if_ne 75 dX8_most_68 (by decide) ?_ ?_
        · refine J_iload_n 2 1 e2.1 dX8_most_75 rfl rfl ?_
          exact J_iretI dX8_most_76 rfl rfl
        · refine J_iload_n 3 2 e2.2.1 dX8_most_71 rfl rfl ?_
          refine J_goto 76 dX8_most_72 (by decide) ?_
          exact J_iretI dX8_most_76 rfl rfl
      · unfold b_X8_most_20
        refine J_iload 4 4 t1.2.2.1 dX8_most_20 rfl ?_
        refine J_iconst 1 dX8_most_22 (by decide) ?_
        refine J_aload_n 0 0 0 dX8_most_23 rfl rfl ?_
        refine J_getR 0 8 9 P dX8_most_24 fl_8_64 rfl rfl (Nat.lt_of_lt_of_le (Nat.le_of_ble_eq_true rfl) hn) rfl ?_
        refine J_getI P 1 0 dX8_most_27 fl_8_297 (layc_Pl_0 hP) rfl (lt_Pl_0 hP hn) ?_
        refine J_ishl dX8_most_30 ?_
        refine J_icmp_ge 67 dX8_most_31 (by decide) ?_ ?_
        · exact J_lv [1, 2, 3] rfl (hXt1 ((t1.1, t1.2.1, t1.2.2.2)))
        · refine J_iload 4 4 t1.2.2.1 dX8_most_34 rfl ?_
          refine J_callSP 1 [.int t1.2.2.1] dX8_most_36 mv_J6_bitCount mv_J6_bitCounts lk_8_306 (ct_J6_bitCount t1.2.2.2 (RF P D T) t1.2.2.1) rfl ⟨by decide, by decide⟩ (Nat.le_of_ble_eq_true rfl) (fun x3 => ?_)
          refine J_iload_n 3 3 t1.2.1 dX8_most_39 rfl rfl ?_
          refine J_seqJ 61 (fun y5 : Int32 × Int32 × Mm => [(0, .ref 0), (1, .int a1), (2, .int y5.1), (3, .int y5.2.1), (4, .int t1.2.2.1)]) (fun y5 => []) (fun y5 => y5.2.2) (fun y5 => ?_) (fun k1 hEy5 => ?_)
          · refine J_iinc 4 4 [(4, .int (t1.2.2.1 + 1)), (0, .ref 0), (1, .int a1), (2, .int y5.1), (3, .int y5.2.1)] t1.2.2.1 (t1.2.2.1 + 1) dX8_most_61 rfl rfl (by decide) rfl ?_
            refine J_goto 20 dX8_most_64 (by decide) ?_
            exact J_lv [1, 2, 3, 4, 0] rfl (hBt1 (y5.1, y5.2.1, t1.2.2.1 + 1, y5.2.2))
          · refine J_icmp_le 61 dX8_most_40 (by decide) ?_ ?_
            · exact J_lv [0, 1, 2, 3, 4] rfl (hEy5 (t1.1, t1.2.1, t1.2.2.2))
            · refine J_aload_n 0 0 0 dX8_most_43 rfl rfl ?_
              refine J_iload 4 4 t1.2.2.1 dX8_most_44 rfl ?_
              refine J_callVI 0 8 1 [.int t1.2.2.1] dX8_most_46 mv_X8_floatsWithFull mv_X8_floatsWithFullv lk_8_300 (ct_X8_floatsWithFull F hn P D T hP t1.2.2.2 t1.2.2.1) rfl rfl (by decide) rfl (Nat.lt_of_lt_of_le (Nat.le_of_ble_eq_true rfl) hn) ⟨by decide, by decide⟩ (Nat.le_of_ble_eq_true rfl) (fun x6 m7 => ?_)
              refine J_if_eq 61 dX8_most_49 (by decide) ?_ ?_
              · exact J_lv [0, 1, 2, 3, 4] rfl (hEy5 (t1.1, t1.2.1, m7))
              · refine J_iload 4 4 t1.2.2.1 dX8_most_52 rfl ?_
                refine J_istore_n 2 [(2, .int t1.2.2.1), (0, .ref 0), (1, .int a1), (3, .int t1.2.1), (4, .int t1.2.2.1)] dX8_most_54 rfl (by decide) rfl ?_
                refine J_iload 4 4 t1.2.2.1 dX8_most_55 rfl ?_
                refine J_callSP 1 [.int t1.2.2.1] dX8_most_57 mv_J6_bitCount mv_J6_bitCounts lk_8_306 (ct_J6_bitCount m7 (RF P D T) t1.2.2.1) rfl ⟨by decide, by decide⟩ (Nat.le_of_ble_eq_true rfl) (fun x8 => ?_)
                refine J_istore_n 3 [(3, .int x8), (2, .int t1.2.2.1), (0, .ref 0), (1, .int a1), (4, .int t1.2.2.1)] dX8_most_60 rfl (by decide) rfl ?_
                exact J_lv [2, 3, 1, 0, 4] rfl (hEy5 (t1.2.2.1, x8, m7))
    · refine J_iconst (-1) dX8_most_9 (by decide) ?_
      exact J_iretI dX8_most_10 rfl rfl
def b_X8_mostUprightSet_7 (F : Nat) (P : Nat) (t1 : Int32 × Int32 × Int32 × Mm) : Option ((Int32 × Int32 × Int32 × Mm) ⊕ (Int32 × Mm)) :=
  if ((1 : Int32) <<< ((t1.2.2.2 P 0) &&& 31)) ≤ t1.2.2.1 then (some (Sum.inr ((t1.1, t1.2.2.2)))) else (bind2 (f_X8_floatsWithFull F t1.2.2.2 P t1.2.2.1) fun x3 m4 => (if x3 = 0 then (some (t1.1, t1.2.1)) else ((f_J6_bitCount t1.2.2.1).bind fun x6 => letv (((((m4 39 1) * (100 : Int32)) + (m4 39 2)) * (10 : Int32)) + x6) fun x8 => if t1.1 = ((-4) : Int32) then (some (t1.2.2.1, x8)) else (if t1.2.1 ≤ x8 then (some (t1.1, t1.2.1)) else (some (t1.2.2.1, x8)))) : Option (Int32 × Int32)).bind fun y5 => some (Sum.inl (y5.1, y5.2, t1.2.2.1 + 1, m4)))
def f_X8_mostUprightSet (F : Nat) (m : Mm) (P : Nat) : Option (Int32 × Mm) :=
  (iter F (b_X8_mostUprightSet_7 F P) (((-4), 0, 0, m) : Int32 × Int32 × Int32 × Mm)).bind (fun e2 : Int32 × Mm => some (e2.1, e2.2))
set_option maxHeartbeats 4000000 in
set_option maxRecDepth 100000 in
theorem ct_X8_mostUprightSet (F : Nat) {n : Nat} (hn : 113 ≤ n) (P D : Nat) (T : Option Nat) (hP : isPl P) (m : Mm)  : Ct yX8_mostUprightSet cX8_mostUprightSet 5 (some .int) 3 69 [.ref 0] n n m (RF P D T) (rI (RF P D T) (f_X8_mostUprightSet F m P)) := by
  refine Ct.ofI (own := RX8) (nm := "mostUprightSet") [(0, .ref 0)] (by decide) (Nat.le_of_ble_eq_true rfl) rfl rfl rfl ?_
  unfold f_X8_mostUprightSet
  refine J_bipush (-4) dX8_mostUprightSet_0 (by decide) ?_
  refine J_istore_n 1 [(1, .int (-4)), (0, .ref 0)] dX8_mostUprightSet_2 rfl (by decide) rfl ?_
  refine J_iconst 0 dX8_mostUprightSet_3 (by decide) ?_
  refine J_istore_n 2 [(2, .int 0), (1, .int (-4)), (0, .ref 0)] dX8_mostUprightSet_4 rfl (by decide) rfl ?_
  refine J_iconst 0 dX8_mostUprightSet_5 (by decide) ?_
  refine J_istore_n 3 [(3, .int 0), (2, .int 0), (1, .int (-4)), (0, .ref 0)] dX8_mostUprightSet_6 rfl (by decide) rfl ?_
  refine J_lv [3, 2, 1, 0] rfl ?_
  refine J_loop (pc := 7) (fun t1 : Int32 × Int32 × Int32 × Mm => [(0, .ref 0), (1, .int t1.1), (2, .int t1.2.1), (3, .int t1.2.2.1)]) (fun t1 => t1.2.2.2) (fun _ => 79) (fun e2 => [(1, .int e2.1)]) (fun _ => []) (fun e2 => e2.2) ?_ (fun t1 k1 hBt1 hXt1 => ?_) F (((-4), 0, 0, m))
  · refine fun e2 => ?_
    refine J_iload_n 1 0 e2.1 dX8_mostUprightSet_79 rfl rfl ?_
    exact J_iretI dX8_mostUprightSet_80 rfl rfl
  · unfold b_X8_mostUprightSet_7
    refine J_iload_n 3 3 t1.2.2.1 dX8_mostUprightSet_7 rfl rfl ?_
    refine J_iconst 1 dX8_mostUprightSet_8 (by decide) ?_
    refine J_aload_n 0 0 0 dX8_mostUprightSet_9 rfl rfl ?_
    refine J_getR 0 8 9 P dX8_mostUprightSet_10 fl_8_64 rfl rfl (Nat.lt_of_lt_of_le (Nat.le_of_ble_eq_true rfl) hn) rfl ?_
    refine J_getI P 1 0 dX8_mostUprightSet_13 fl_8_297 (layc_Pl_0 hP) rfl (lt_Pl_0 hP hn) ?_
    refine J_ishl dX8_mostUprightSet_16 ?_
    refine J_icmp_ge 79 dX8_mostUprightSet_17 (by decide) ?_ ?_
    · exact J_lv [1] rfl (hXt1 ((t1.1, t1.2.2.2)))
    · refine J_aload_n 0 0 0 dX8_mostUprightSet_20 rfl rfl ?_
      refine J_iload_n 3 3 t1.2.2.1 dX8_mostUprightSet_21 rfl rfl ?_
      refine J_callVI 0 8 1 [.int t1.2.2.1] dX8_mostUprightSet_22 mv_X8_floatsWithFull mv_X8_floatsWithFullv lk_8_300 (ct_X8_floatsWithFull F hn P D T hP t1.2.2.2 t1.2.2.1) rfl rfl (by decide) rfl (Nat.lt_of_lt_of_le (Nat.le_of_ble_eq_true rfl) hn) ⟨by decide, by decide⟩ (Nat.le_of_ble_eq_true rfl) (fun x3 m4 => ?_)
      refine J_seqJ 73 (fun y5 : Int32 × Int32 => [(0, .ref 0), (1, .int y5.1), (2, .int y5.2), (3, .int t1.2.2.1)]) (fun y5 => []) (fun y5 => m4) (fun y5 => ?_) (fun k1 hEy5 => ?_)
      · refine J_iinc 3 3 [(3, .int (t1.2.2.1 + 1)), (0, .ref 0), (1, .int y5.1), (2, .int y5.2)] t1.2.2.1 (t1.2.2.1 + 1) dX8_mostUprightSet_73 rfl rfl (by decide) rfl ?_
        refine J_goto 7 dX8_mostUprightSet_76 (by decide) ?_
        exact J_lv [1, 2, 3, 0] rfl (hBt1 (y5.1, y5.2, t1.2.2.1 + 1, m4))
      · refine J_if_eq 73 dX8_mostUprightSet_25 (by decide) ?_ ?_
        · exact J_lv [0, 1, 2, 3] rfl (hEy5 (t1.1, t1.2.1))
        · refine J_aload_n 0 0 0 dX8_mostUprightSet_28 rfl rfl ?_
          refine J_getR 0 8 6 39 dX8_mostUprightSet_29 fl_8_44 rfl rfl (Nat.lt_of_lt_of_le (Nat.le_of_ble_eq_true rfl) hn) rfl ?_
          refine J_getI 39 3 1 dX8_mostUprightSet_32 fl_8_217 rfl rfl (Nat.lt_of_lt_of_le (Nat.le_of_ble_eq_true rfl) hn) ?_
          refine J_bipush 100 dX8_mostUprightSet_35 (by decide) ?_
          refine J_imul dX8_mostUprightSet_37 ?_
          refine J_aload_n 0 0 0 dX8_mostUprightSet_38 rfl rfl ?_
          refine J_getR 0 8 6 39 dX8_mostUprightSet_39 fl_8_44 rfl rfl (Nat.lt_of_lt_of_le (Nat.le_of_ble_eq_true rfl) hn) rfl ?_
          refine J_getI 39 3 2 dX8_mostUprightSet_42 fl_8_220 rfl rfl (Nat.lt_of_lt_of_le (Nat.le_of_ble_eq_true rfl) hn) ?_
          refine J_iadd dX8_mostUprightSet_45 ?_
          refine J_bipush 10 dX8_mostUprightSet_46 (by decide) ?_
          refine J_imul dX8_mostUprightSet_48 ?_
          refine J_iload_n 3 3 t1.2.2.1 dX8_mostUprightSet_49 rfl rfl ?_
          refine J_callSP 1 [.int t1.2.2.1] dX8_mostUprightSet_50 mv_J6_bitCount mv_J6_bitCounts lk_8_306 (ct_J6_bitCount m4 (RF P D T) t1.2.2.1) rfl ⟨by decide, by decide⟩ (Nat.le_of_ble_eq_true rfl) (fun x6 => ?_)
          refine J_iadd dX8_mostUprightSet_53 ?_
          refine J_let (fun x8 => ?_)
          refine J_istore 4 [(4, .int x8), (0, .ref 0), (1, .int t1.1), (2, .int t1.2.1), (3, .int t1.2.2.1)] dX8_mostUprightSet_54 (by decide) rfl ?_
          refine J_iload_n 1 2 t1.1 dX8_mostUprightSet_56 rfl rfl ?_
          refine J_bipush (-4) dX8_mostUprightSet_57 (by decide) ?_
          refine J_icmp_eq 68 dX8_mostUprightSet_59 (by decide) ?_ ?_
          · refine J_iload_n 3 4 t1.2.2.1 dX8_mostUprightSet_68 rfl rfl ?_
            refine J_istore_n 1 [(1, .int t1.2.2.1), (4, .int x8), (0, .ref 0), (2, .int t1.2.1), (3, .int t1.2.2.1)] dX8_mostUprightSet_69 rfl (by decide) rfl ?_
            refine J_iload 4 1 x8 dX8_mostUprightSet_70 rfl ?_
            refine J_istore_n 2 [(2, .int x8), (1, .int t1.2.2.1), (4, .int x8), (0, .ref 0), (3, .int t1.2.2.1)] dX8_mostUprightSet_72 rfl (by decide) rfl ?_
            exact J_lv [3, 1, 0, 4] rfl (hEy5 (t1.2.2.1, x8))
          · refine J_iload 4 0 x8 dX8_mostUprightSet_62 rfl ?_
            refine J_iload_n 2 3 t1.2.1 dX8_mostUprightSet_64 rfl rfl ?_
            refine J_icmp_ge 73 dX8_mostUprightSet_65 (by decide) ?_ ?_
            · exact J_lv [1, 2, 3, 4] rfl (hEy5 (t1.1, t1.2.1))
            · refine J_iload_n 3 4 t1.2.2.1 dX8_mostUprightSet_68 rfl rfl ?_
              refine J_istore_n 1 [(1, .int t1.2.2.1), (4, .int x8), (0, .ref 0), (2, .int t1.2.1), (3, .int t1.2.2.1)] dX8_mostUprightSet_69 rfl (by decide) rfl ?_
              refine J_iload 4 1 x8 dX8_mostUprightSet_70 rfl ?_
              refine J_istore_n 2 [(2, .int x8), (1, .int t1.2.2.1), (4, .int x8), (0, .ref 0), (3, .int t1.2.2.1)] dX8_mostUprightSet_72 rfl (by decide) rfl ?_
              exact J_lv [3, 1, 0, 4] rfl (hEy5 (t1.2.2.1, x8))
def f_X8_now (F : Nat) (m : Mm) (P : Nat) (a1 : Int32) : Option (Int32 × Mm) :=
  (f_X3_weigh F m 39 P 5 0).bind fun m2 => if a1 = 0 then (some (m2 4 0, m2)) else (if a1 = 1 then (some (m2 39 0, m2)) else (if a1 = 2 then (some (m2 39 1, m2)) else (if a1 = 3 then (some (m2 39 2, m2)) else (if a1 = 4 then (some (m2 4 1, m2)) else (if a1 = 5 then (some (m2 4 2, m2)) else (if a1 = 6 then ((f_X0_tally F m2 10 1).bind fun x3 => some (x3, m2)) else (if a1 = 7 then ((f_X0_tally F m2 10 3).bind fun x5 => some (x5, m2)) else (some ((-1), m2)))))))))
set_option maxHeartbeats 4000000 in
set_option maxRecDepth 100000 in
theorem ct_X8_now (F : Nat) {n : Nat} (hn : 113 ≤ n) (P D : Nat) (T : Option Nat) (hP : isPl P) (m : Mm) (a1 : Int32) : Ct yX8_now cX8_now 2 (some .int) 2 48 [.ref 0, .int a1] n n m (RF P D T) (rI (RF P D T) (f_X8_now F m P a1)) := by
  refine Ct.ofI (own := RX8) (nm := "now") [(0, .ref 0), (1, .int a1)] (by decide) (Nat.le_of_ble_eq_true rfl) rfl rfl rfl ?_
  unfold f_X8_now
  refine J_aload_n 0 0 0 dX8_now_0 rfl rfl ?_
  refine J_getR 0 8 6 39 dX8_now_1 fl_8_44 rfl rfl (Nat.lt_of_lt_of_le (Nat.le_of_ble_eq_true rfl) hn) rfl ?_
  refine J_aload_n 0 0 0 dX8_now_4 rfl rfl ?_
  refine J_getR 0 8 9 P dX8_now_5 fl_8_64 rfl rfl (Nat.lt_of_lt_of_le (Nat.le_of_ble_eq_true rfl) hn) rfl ?_
  refine J_aload_n 0 0 0 dX8_now_8 rfl rfl ?_
  refine J_getR 0 8 1 4 dX8_now_9 fl_8_19 rfl rfl (Nat.lt_of_lt_of_le (Nat.le_of_ble_eq_true rfl) hn) rfl ?_
  refine J_getR 4 7 4 5 dX8_now_12 fl_8_123 rfl rfl (Nat.lt_of_lt_of_le (Nat.le_of_ble_eq_true rfl) hn) rfl ?_
  refine J_iconst 0 dX8_now_15 (by decide) ?_
  refine J_callVV 39 3 3 [.ref P, .ref 5, .int 0] dX8_now_16 mv_X3_weigh mv_X3_weighv lk_8_207 (ct_X3_weigh F hn P D T m 39 (by simp [isSc]) P hP 5 ⟨rfl, Nat.le_of_ble_eq_true rfl⟩ 0) rfl rfl (by decide) rfl (Nat.lt_of_lt_of_le (Nat.le_of_ble_eq_true rfl) hn) ⟨by decide, by decide⟩ (Nat.le_of_ble_eq_true rfl) (fun m2 => ?_)
  refine J_iload_n 1 1 a1 dX8_now_19 rfl rfl ?_
  refine J_split (c1 := 0) (fun hs20_0 => ?_) (fun hs20_0 => ?_)
  · refine J_tsIn 68 hs20_0 dX8_now_20 (by decide) (by decide) rfl (by decide) ?_
    refine J_aload_n 0 0 0 dX8_now_68 rfl rfl ?_
    refine J_getR 0 8 1 4 dX8_now_69 fl_8_19 rfl rfl (Nat.lt_of_lt_of_le (Nat.le_of_ble_eq_true rfl) hn) rfl ?_
    refine J_getI 4 7 0 dX8_now_72 fl_8_211 rfl rfl (Nat.lt_of_lt_of_le (Nat.le_of_ble_eq_true rfl) hn) ?_
    exact J_iretI dX8_now_75 rfl rfl
  · refine J_split (c1 := 1) (fun hs20_1 => ?_) (fun hs20_1 => ?_)
    · refine J_tsIn 76 hs20_1 dX8_now_20 (by decide) (by decide) rfl (by decide) ?_
      refine J_aload_n 0 0 0 dX8_now_76 rfl rfl ?_
      refine J_getR 0 8 6 39 dX8_now_77 fl_8_44 rfl rfl (Nat.lt_of_lt_of_le (Nat.le_of_ble_eq_true rfl) hn) rfl ?_
      refine J_getI 39 3 0 dX8_now_80 fl_8_214 rfl rfl (Nat.lt_of_lt_of_le (Nat.le_of_ble_eq_true rfl) hn) ?_
      exact J_iretI dX8_now_83 rfl rfl
    · refine J_split (c1 := 2) (fun hs20_2 => ?_) (fun hs20_2 => ?_)
      · refine J_tsIn 84 hs20_2 dX8_now_20 (by decide) (by decide) rfl (by decide) ?_
        refine J_aload_n 0 0 0 dX8_now_84 rfl rfl ?_
        refine J_getR 0 8 6 39 dX8_now_85 fl_8_44 rfl rfl (Nat.lt_of_lt_of_le (Nat.le_of_ble_eq_true rfl) hn) rfl ?_
        refine J_getI 39 3 1 dX8_now_88 fl_8_217 rfl rfl (Nat.lt_of_lt_of_le (Nat.le_of_ble_eq_true rfl) hn) ?_
        exact J_iretI dX8_now_91 rfl rfl
      · refine J_split (c1 := 3) (fun hs20_3 => ?_) (fun hs20_3 => ?_)
        · refine J_tsIn 92 hs20_3 dX8_now_20 (by decide) (by decide) rfl (by decide) ?_
          refine J_aload_n 0 0 0 dX8_now_92 rfl rfl ?_
          refine J_getR 0 8 6 39 dX8_now_93 fl_8_44 rfl rfl (Nat.lt_of_lt_of_le (Nat.le_of_ble_eq_true rfl) hn) rfl ?_
          refine J_getI 39 3 2 dX8_now_96 fl_8_220 rfl rfl (Nat.lt_of_lt_of_le (Nat.le_of_ble_eq_true rfl) hn) ?_
          exact J_iretI dX8_now_99 rfl rfl
        · refine J_split (c1 := 4) (fun hs20_4 => ?_) (fun hs20_4 => ?_)
          · refine J_tsIn 100 hs20_4 dX8_now_20 (by decide) (by decide) rfl (by decide) ?_
            refine J_aload_n 0 0 0 dX8_now_100 rfl rfl ?_
            refine J_getR 0 8 1 4 dX8_now_101 fl_8_19 rfl rfl (Nat.lt_of_lt_of_le (Nat.le_of_ble_eq_true rfl) hn) rfl ?_
            refine J_getI 4 7 1 dX8_now_104 fl_8_194 rfl rfl (Nat.lt_of_lt_of_le (Nat.le_of_ble_eq_true rfl) hn) ?_
            exact J_iretI dX8_now_107 rfl rfl
          · refine J_split (c1 := 5) (fun hs20_5 => ?_) (fun hs20_5 => ?_)
            · refine J_tsIn 108 hs20_5 dX8_now_20 (by decide) (by decide) rfl (by decide) ?_
              refine J_aload_n 0 0 0 dX8_now_108 rfl rfl ?_
              refine J_getR 0 8 1 4 dX8_now_109 fl_8_19 rfl rfl (Nat.lt_of_lt_of_le (Nat.le_of_ble_eq_true rfl) hn) rfl ?_
              refine J_getI 4 7 2 dX8_now_112 fl_8_223 rfl rfl (Nat.lt_of_lt_of_le (Nat.le_of_ble_eq_true rfl) hn) ?_
              exact J_iretI dX8_now_115 rfl rfl
            · refine J_split (c1 := 6) (fun hs20_6 => ?_) (fun hs20_6 => ?_)
              · refine J_tsIn 116 hs20_6 dX8_now_20 (by decide) (by decide) rfl (by decide) ?_
                refine J_aload_n 0 0 0 dX8_now_116 rfl rfl ?_
                refine J_getR 0 8 1 4 dX8_now_117 fl_8_19 rfl rfl (Nat.lt_of_lt_of_le (Nat.le_of_ble_eq_true rfl) hn) rfl ?_
                refine J_getR 4 7 9 10 dX8_now_120 fl_8_154 rfl rfl (Nat.lt_of_lt_of_le (Nat.le_of_ble_eq_true rfl) hn) rfl ?_
                refine J_iconst 1 dX8_now_123 (by decide) ?_
                refine J_callVP 10 0 1 [.int 1] dX8_now_124 mv_X0_tally mv_X0_tallyv lk_8_226 (ct_X0_tally F hn P D T m2 10 (by simp [isOr]) 1) rfl rfl (by decide) rfl (Nat.lt_of_lt_of_le (Nat.le_of_ble_eq_true rfl) hn) ⟨by decide, by decide⟩ (Nat.le_of_ble_eq_true rfl) (fun x3 => ?_)
                exact J_iretI dX8_now_127 rfl rfl
              · refine J_split (c1 := 7) (fun hs20_7 => ?_) (fun hs20_7 => ?_)
                · refine J_tsIn 128 hs20_7 dX8_now_20 (by decide) (by decide) rfl (by decide) ?_
                  refine J_aload_n 0 0 0 dX8_now_128 rfl rfl ?_
                  refine J_getR 0 8 1 4 dX8_now_129 fl_8_19 rfl rfl (Nat.lt_of_lt_of_le (Nat.le_of_ble_eq_true rfl) hn) rfl ?_
                  refine J_getR 4 7 9 10 dX8_now_132 fl_8_154 rfl rfl (Nat.lt_of_lt_of_le (Nat.le_of_ble_eq_true rfl) hn) rfl ?_
                  refine J_iconst 3 dX8_now_135 (by decide) ?_
                  refine J_callVP 10 0 1 [.int 3] dX8_now_136 mv_X0_tally mv_X0_tallyv lk_8_226 (ct_X0_tally F hn P D T m2 10 (by simp [isOr]) 3) rfl rfl (by decide) rfl (Nat.lt_of_lt_of_le (Nat.le_of_ble_eq_true rfl) hn) ⟨by decide, by decide⟩ (Nat.le_of_ble_eq_true rfl) (fun x5 => ?_)
                  exact J_iretI dX8_now_139 rfl rfl
                · refine J_tsOut 140 dX8_now_20 (ts_out [0, 1, 2, 3, 4, 5, 6, 7] (by decide) (by simp only [List.mem_cons, List.not_mem_nil, or_false, forall_eq_or_imp, forall_eq]; exact ⟨hs20_0, hs20_1, hs20_2, hs20_3, hs20_4, hs20_5, hs20_6, hs20_7⟩)) (by decide) ?_
                  refine J_iconst (-1) dX8_now_140 (by decide) ?_
                  exact J_iretI dX8_now_141 rfl rfl

theorem fl_4_24 : FL RX4 24 4 7 := ⟨by decide, by decide, tb 204 (by decide +kernel) rfl⟩
theorem fl_4_35 : FL RX4 35 4 8 := ⟨by decide, by decide, tb 205 (by decide +kernel) rfl⟩
theorem fl_5_15 : FL RX5 15 5 2 := ⟨by decide, by decide, tb 383 (by decide +kernel) rfl⟩
theorem fl_5_19 : FL RX5 19 5 0 := ⟨by decide, by decide, tb 379 (by decide +kernel) rfl⟩
theorem fl_5_9 : FL RX5 9 5 1 := ⟨by decide, by decide, tb 381 (by decide +kernel) rfl⟩
theorem fl_6_15 : FL RX6 15 6 0 := ⟨by decide, by decide, tb 236 (by decide +kernel) rfl⟩
theorem fl_6_9 : FL RX6 9 6 1 := ⟨by decide, by decide, tb 238 (by decide +kernel) rfl⟩
theorem fl_7_117 : FL RX7 117 3 1 := ⟨by decide, by decide, tb 129 (by decide +kernel) rfl⟩
theorem fl_7_120 : FL RX7 120 7 3 := ⟨by decide, by decide, tb 147 (by decide +kernel) rfl⟩
theorem fl_7_143 : FL RX7 143 1 1 := ⟨by decide, by decide, tb 259 (by decide +kernel) rfl⟩
theorem fl_7_221 : FL RX7 221 1 3 := ⟨by decide, by decide, tb 269 (by decide +kernel) rfl⟩
theorem fl_7_224 : FL RX7 224 1 17 := ⟨by decide, by decide, tb 323 (by decide +kernel) rfl⟩
theorem fl_7_37 : FL RX7 37 7 10 := ⟨by decide, by decide, tb 164 (by decide +kernel) rfl⟩
theorem fl_7_93 : FL RX7 93 3 0 := ⟨by decide, by decide, tb 126 (by decide +kernel) rfl⟩
theorem lk_4_28 : Cond.methodLink RX4 28 yX4_listChoices ∈ TBg := tb 812 (by decide +kernel) rfl
theorem lk_4_42 : Cond.methodLink RX4 42 yX4_fillRow ∈ TBg := tb 816 (by decide +kernel) rfl
theorem lk_4_46 : Cond.methodLink RX4 46 yX7_copyWithoutOrders ∈ TBg := tb 820 (by decide +kernel) rfl
theorem lk_4_52 : Cond.methodLink RX4 52 yX4_giveRow ∈ TBg := tb 821 (by decide +kernel) rfl
theorem lk_4_56 : Cond.methodLink RX4 56 yX7_minutesAfloat ∈ TBg := tb 828 (by decide +kernel) rfl
theorem lk_4_60 : Cond.methodLink RX4 60 yX7_waterInAll ∈ TBg := tb 829 (by decide +kernel) rfl
theorem lk_4_64 : Cond.methodLink RX4 64 yX4_keepIfBetter ∈ TBg := tb 830 (by decide +kernel) rfl
theorem lk_5_22 : Cond.methodLink RX5 22 yJ7_fill_53178 ∈ TBg := tb 956 (by decide +kernel) rfl
theorem lk_7_113 : Cond.methodLink RX7 113 yX3_whySinks ∈ TBg := tb 417 (by decide +kernel) rfl
theorem lk_7_123 : Cond.methodLink RX7 123 yX7_passMinute ∈ TBg := tb 794 (by decide +kernel) rfl
theorem lk_7_131 : Cond.methodLink RX7 131 yX7_endOrders ∈ TBg := tb 675 (by decide +kernel) rfl
theorem lk_7_134 : Cond.methodLink RX7 134 yX7_beginOrders ∈ TBg := tb 683 (by decide +kernel) rfl
theorem lk_7_137 : Cond.methodLink RX7 137 yX7_comeThroughHoles ∈ TBg := tb 703 (by decide +kernel) rfl
theorem lk_7_140 : Cond.methodLink RX7 140 yX7_comeThroughValves ∈ TBg := tb 708 (by decide +kernel) rfl
theorem lk_7_146 : Cond.methodLink RX7 146 yX7_flowThroughDoor ∈ TBg := tb 715 (by decide +kernel) rfl
theorem lk_7_150 : Cond.methodLink RX7 150 yX7_pumpOut ∈ TBg := tb 722 (by decide +kernel) rfl
theorem lk_7_71 : Cond.methodLink RX7 71 yX7_seeWhetherSinks ∈ TBg := tb 406 (by decide +kernel) rfl
theorem lk_7_89 : Cond.methodLink RX7 89 yX3_weigh ∈ TBg := tb 410 (by decide +kernel) rfl
theorem mv_X3_weigh : MV yX3_weigh cX3_weigh 8 none 3 := ⟨tb 413 (by decide +kernel) rfl, tb 5 (by decide +kernel) rfl, by decide +kernel⟩
theorem mv_X3_weighv : Cond.instanceMethod yX3_weigh ∈ TBg ∧ Cond.selects yX3_weigh.cls yX3_weigh yX3_weigh ∈ TBg := ⟨tb 411 (by decide +kernel) rfl, tb 412 (by decide +kernel) rfl⟩
theorem mv_X3_whySinks : MV yX3_whySinks cX3_whySinks 2 (some .int) 1 := ⟨tb 420 (by decide +kernel) rfl, tb 5 (by decide +kernel) rfl, by decide +kernel⟩
theorem mv_X3_whySinksv : Cond.instanceMethod yX3_whySinks ∈ TBg ∧ Cond.selects yX3_whySinks.cls yX3_whySinks yX3_whySinks ∈ TBg := ⟨tb 418 (by decide +kernel) rfl, tb 419 (by decide +kernel) rfl⟩
theorem mv_X4_fillRow : MV yX4_fillRow cX4_fillRow 6 (some .boolean) 2 := ⟨tb 819 (by decide +kernel) rfl, tb 6 (by decide +kernel) rfl, by decide +kernel⟩
theorem mv_X4_fillRowv : Cond.instanceMethod yX4_fillRow ∈ TBg ∧ Cond.selects yX4_fillRow.cls yX4_fillRow yX4_fillRow ∈ TBg := ⟨tb 818 (by decide +kernel) rfl, tbP (k := 10) 29 (by decide +kernel) rfl⟩
theorem mv_X4_giveRow : MV yX4_giveRow cX4_giveRow 9 none 3 := ⟨tb 824 (by decide +kernel) rfl, tb 6 (by decide +kernel) rfl, by decide +kernel⟩
theorem mv_X4_giveRowv : Cond.instanceMethod yX4_giveRow ∈ TBg ∧ Cond.selects yX4_giveRow.cls yX4_giveRow yX4_giveRow ∈ TBg := ⟨tb 823 (by decide +kernel) rfl, tbP (k := 10) 30 (by decide +kernel) rfl⟩
theorem mv_X4_keepIfBetter : MV yX4_keepIfBetter cX4_keepIfBetter 4 none 2 := ⟨tb 833 (by decide +kernel) rfl, tb 6 (by decide +kernel) rfl, by decide +kernel⟩
theorem mv_X4_keepIfBetterv : Cond.instanceMethod yX4_keepIfBetter ∈ TBg ∧ Cond.selects yX4_keepIfBetter.cls yX4_keepIfBetter yX4_keepIfBetter ∈ TBg := ⟨tb 832 (by decide +kernel) rfl, tbP (k := 10) 31 (by decide +kernel) rfl⟩
theorem mv_X4_listChoices : MV yX4_listChoices cX4_listChoices 4 none 2 := ⟨tb 815 (by decide +kernel) rfl, tb 6 (by decide +kernel) rfl, by decide +kernel⟩
theorem mv_X4_listChoicesv : Cond.instanceMethod yX4_listChoices ∈ TBg ∧ Cond.selects yX4_listChoices.cls yX4_listChoices yX4_listChoices ∈ TBg := ⟨tb 814 (by decide +kernel) rfl, tbP (k := 10) 28 (by decide +kernel) rfl⟩
theorem mv_X7_beginOrders : MV yX7_beginOrders cX7_beginOrders 3 none 1 := ⟨tb 686 (by decide +kernel) rfl, tb 3 (by decide +kernel) rfl, by decide +kernel⟩
theorem mv_X7_beginOrdersv : Cond.instanceMethod yX7_beginOrders ∈ TBg ∧ Cond.selects yX7_beginOrders.cls yX7_beginOrders yX7_beginOrders ∈ TBg := ⟨tb 685 (by decide +kernel) rfl, tbP (k := 11) 20 (by decide +kernel) rfl⟩
theorem mv_X7_comeThroughHoles : MV yX7_comeThroughHoles cX7_comeThroughHoles 3 none 1 := ⟨tb 706 (by decide +kernel) rfl, tb 3 (by decide +kernel) rfl, by decide +kernel⟩
theorem mv_X7_comeThroughHolesv : Cond.instanceMethod yX7_comeThroughHoles ∈ TBg ∧ Cond.selects yX7_comeThroughHoles.cls yX7_comeThroughHoles yX7_comeThroughHoles ∈ TBg := ⟨tb 705 (by decide +kernel) rfl, tbP (k := 11) 22 (by decide +kernel) rfl⟩
theorem mv_X7_comeThroughValves : MV yX7_comeThroughValves cX7_comeThroughValves 3 none 1 := ⟨tb 711 (by decide +kernel) rfl, tb 3 (by decide +kernel) rfl, by decide +kernel⟩
theorem mv_X7_comeThroughValvesv : Cond.instanceMethod yX7_comeThroughValves ∈ TBg ∧ Cond.selects yX7_comeThroughValves.cls yX7_comeThroughValves yX7_comeThroughValves ∈ TBg := ⟨tb 710 (by decide +kernel) rfl, tbP (k := 11) 23 (by decide +kernel) rfl⟩
theorem mv_X7_copyWithoutOrders : MV yX7_copyWithoutOrders cX7_copyWithoutOrders 2 none 1 := ⟨tb 747 (by decide +kernel) rfl, tb 3 (by decide +kernel) rfl, by decide +kernel⟩
theorem mv_X7_copyWithoutOrdersv : Cond.instanceMethod yX7_copyWithoutOrders ∈ TBg ∧ Cond.selects yX7_copyWithoutOrders.cls yX7_copyWithoutOrders yX7_copyWithoutOrders ∈ TBg := ⟨tb 745 (by decide +kernel) rfl, tb 746 (by decide +kernel) rfl⟩
theorem mv_X7_endOrders : MV yX7_endOrders cX7_endOrders 2 none 0 := ⟨tb 678 (by decide +kernel) rfl, tb 3 (by decide +kernel) rfl, by decide +kernel⟩
theorem mv_X7_endOrdersv : Cond.instanceMethod yX7_endOrders ∈ TBg ∧ Cond.selects yX7_endOrders.cls yX7_endOrders yX7_endOrders ∈ TBg := ⟨tb 677 (by decide +kernel) rfl, tbP (k := 11) 18 (by decide +kernel) rfl⟩
theorem mv_X7_flowThroughDoor : MV yX7_flowThroughDoor cX7_flowThroughDoor 9 none 2 := ⟨tb 718 (by decide +kernel) rfl, tb 3 (by decide +kernel) rfl, by decide +kernel⟩
theorem mv_X7_flowThroughDoorv : Cond.instanceMethod yX7_flowThroughDoor ∈ TBg ∧ Cond.selects yX7_flowThroughDoor.cls yX7_flowThroughDoor yX7_flowThroughDoor ∈ TBg := ⟨tb 717 (by decide +kernel) rfl, tbP (k := 11) 24 (by decide +kernel) rfl⟩
theorem mv_X7_minutesAfloat : MV yX7_minutesAfloat cX7_minutesAfloat 5 (some .int) 2 := ⟨tb 793 (by decide +kernel) rfl, tb 3 (by decide +kernel) rfl, by decide +kernel⟩
theorem mv_X7_minutesAfloatv : Cond.instanceMethod yX7_minutesAfloat ∈ TBg ∧ Cond.selects yX7_minutesAfloat.cls yX7_minutesAfloat yX7_minutesAfloat ∈ TBg := ⟨tb 791 (by decide +kernel) rfl, tb 792 (by decide +kernel) rfl⟩
theorem mv_X7_passMinute : MV yX7_passMinute cX7_passMinute 3 none 1 := ⟨tb 674 (by decide +kernel) rfl, tb 3 (by decide +kernel) rfl, by decide +kernel⟩
theorem mv_X7_passMinutev : Cond.instanceMethod yX7_passMinute ∈ TBg ∧ Cond.selects yX7_passMinute.cls yX7_passMinute yX7_passMinute ∈ TBg := ⟨tb 672 (by decide +kernel) rfl, tb 673 (by decide +kernel) rfl⟩
theorem mv_X7_pumpOut : MV yX7_pumpOut cX7_pumpOut 4 none 1 := ⟨tb 725 (by decide +kernel) rfl, tb 3 (by decide +kernel) rfl, by decide +kernel⟩
theorem mv_X7_pumpOutv : Cond.instanceMethod yX7_pumpOut ∈ TBg ∧ Cond.selects yX7_pumpOut.cls yX7_pumpOut yX7_pumpOut ∈ TBg := ⟨tb 724 (by decide +kernel) rfl, tbP (k := 11) 25 (by decide +kernel) rfl⟩
theorem mv_X7_seeWhetherSinks : MV yX7_seeWhetherSinks cX7_seeWhetherSinks 2 none 1 := ⟨tb 409 (by decide +kernel) rfl, tb 3 (by decide +kernel) rfl, by decide +kernel⟩
theorem mv_X7_seeWhetherSinksv : Cond.instanceMethod yX7_seeWhetherSinks ∈ TBg ∧ Cond.selects yX7_seeWhetherSinks.cls yX7_seeWhetherSinks yX7_seeWhetherSinks ∈ TBg := ⟨tb 407 (by decide +kernel) rfl, tb 408 (by decide +kernel) rfl⟩
theorem mv_X7_waterInAll : MV yX7_waterInAll cX7_waterInAll 2 (some .int) 1 := ⟨tb 729 (by decide +kernel) rfl, tb 3 (by decide +kernel) rfl, by decide +kernel⟩
theorem mv_X7_waterInAllv : Cond.instanceMethod yX7_waterInAll ∈ TBg ∧ Cond.selects yX7_waterInAll.cls yX7_waterInAll yX7_waterInAll ∈ TBg := ⟨tb 727 (by decide +kernel) rfl, tb 728 (by decide +kernel) rfl⟩
theorem dX7_pumpOut_0 : decode cX7_pumpOut 0 = .ok (.iconst 0, 1) := by decide +kernel
theorem dX7_pumpOut_1 : decode cX7_pumpOut 1 = .ok (.istore_n 2, 1) := by decide +kernel
theorem dX7_pumpOut_2 : decode cX7_pumpOut 2 = .ok (.iload_n 2, 1) := by decide +kernel
theorem dX7_pumpOut_3 : decode cX7_pumpOut 3 = .ok (.aload_n 1, 1) := by decide +kernel
theorem dX7_pumpOut_4 : decode cX7_pumpOut 4 = .ok (.getfield 221, 3) := by decide +kernel
theorem dX7_pumpOut_7 : decode cX7_pumpOut 7 = .ok (.if_icmp .ge 51, 3) := by decide +kernel
theorem dX7_pumpOut_10 : decode cX7_pumpOut 10 = .ok (.aload_n 0, 1) := by decide +kernel
theorem dX7_pumpOut_11 : decode cX7_pumpOut 11 = .ok (.getfield 24, 3) := by decide +kernel
theorem dX7_pumpOut_14 : decode cX7_pumpOut 14 = .ok (.iload_n 2, 1) := by decide +kernel
theorem dX7_pumpOut_15 : decode cX7_pumpOut 15 = .ok (.iaload, 1) := by decide +kernel
theorem dX7_pumpOut_16 : decode cX7_pumpOut 16 = .ok (.istore_n 3, 1) := by decide +kernel
theorem dX7_pumpOut_17 : decode cX7_pumpOut 17 = .ok (.iload_n 3, 1) := by decide +kernel
theorem dX7_pumpOut_18 : decode cX7_pumpOut 18 = .ok (.ifCond .lt 34, 3) := by decide +kernel
theorem dX7_pumpOut_21 : decode cX7_pumpOut 21 = .ok (.iload_n 3, 1) := by decide +kernel
theorem dX7_pumpOut_22 : decode cX7_pumpOut 22 = .ok (.aload_n 1, 1) := by decide +kernel
theorem dX7_pumpOut_23 : decode cX7_pumpOut 23 = .ok (.getfield 203, 3) := by decide +kernel
theorem dX7_pumpOut_26 : decode cX7_pumpOut 26 = .ok (.if_icmp .ge 26, 3) := by decide +kernel
theorem dX7_pumpOut_29 : decode cX7_pumpOut 29 = .ok (.aload_n 0, 1) := by decide +kernel
theorem dX7_pumpOut_30 : decode cX7_pumpOut 30 = .ok (.getfield 9, 3) := by decide +kernel
theorem dX7_pumpOut_33 : decode cX7_pumpOut 33 = .ok (.iload_n 3, 1) := by decide +kernel
theorem dX7_pumpOut_34 : decode cX7_pumpOut 34 = .ok (.iconst 0, 1) := by decide +kernel
theorem dX7_pumpOut_35 : decode cX7_pumpOut 35 = .ok (.aload_n 0, 1) := by decide +kernel
theorem dX7_pumpOut_36 : decode cX7_pumpOut 36 = .ok (.getfield 9, 3) := by decide +kernel
theorem dX7_pumpOut_39 : decode cX7_pumpOut 39 = .ok (.iload_n 3, 1) := by decide +kernel
theorem dX7_pumpOut_40 : decode cX7_pumpOut 40 = .ok (.iaload, 1) := by decide +kernel
theorem dX7_pumpOut_41 : decode cX7_pumpOut 41 = .ok (.aload_n 1, 1) := by decide +kernel
theorem dX7_pumpOut_42 : decode cX7_pumpOut 42 = .ok (.getfield 224, 3) := by decide +kernel
theorem dX7_pumpOut_45 : decode cX7_pumpOut 45 = .ok (.iload_n 2, 1) := by decide +kernel
theorem dX7_pumpOut_46 : decode cX7_pumpOut 46 = .ok (.iaload, 1) := by decide +kernel
theorem dX7_pumpOut_47 : decode cX7_pumpOut 47 = .ok (.isub, 1) := by decide +kernel
theorem dX7_pumpOut_48 : decode cX7_pumpOut 48 = .ok (.invokestatic 126, 3) := by decide +kernel
theorem dX7_pumpOut_51 : decode cX7_pumpOut 51 = .ok (.iastore, 1) := by decide +kernel
theorem dX7_pumpOut_52 : decode cX7_pumpOut 52 = .ok (.iinc 2 1, 3) := by decide +kernel
theorem dX7_pumpOut_55 : decode cX7_pumpOut 55 = .ok (.goto (-53), 3) := by decide +kernel
theorem dX7_pumpOut_58 : decode cX7_pumpOut 58 = .ok (.return_, 1) := by decide +kernel
theorem dX7_seeWhetherSinks_0 : decode cX7_seeWhetherSinks 0 = .ok (.aload_n 0, 1) := by decide +kernel
theorem dX7_seeWhetherSinks_1 : decode cX7_seeWhetherSinks 1 = .ok (.getfield 37, 3) := by decide +kernel
theorem dX7_seeWhetherSinks_4 : decode cX7_seeWhetherSinks 4 = .ok (.aload_n 1, 1) := by decide +kernel
theorem dX7_seeWhetherSinks_5 : decode cX7_seeWhetherSinks 5 = .ok (.aload_n 0, 1) := by decide +kernel
theorem dX7_seeWhetherSinks_6 : decode cX7_seeWhetherSinks 6 = .ok (.getfield 9, 3) := by decide +kernel
theorem dX7_seeWhetherSinks_9 : decode cX7_seeWhetherSinks 9 = .ok (.iconst 0, 1) := by decide +kernel
theorem dX7_seeWhetherSinks_10 : decode cX7_seeWhetherSinks 10 = .ok (.invokevirtual 89, 3) := by decide +kernel
theorem dX7_seeWhetherSinks_13 : decode cX7_seeWhetherSinks 13 = .ok (.aload_n 0, 1) := by decide +kernel
theorem dX7_seeWhetherSinks_14 : decode cX7_seeWhetherSinks 14 = .ok (.aload_n 0, 1) := by decide +kernel
theorem dX7_seeWhetherSinks_15 : decode cX7_seeWhetherSinks 15 = .ok (.getfield 37, 3) := by decide +kernel
theorem dX7_seeWhetherSinks_18 : decode cX7_seeWhetherSinks 18 = .ok (.aload_n 1, 1) := by decide +kernel
theorem dX7_seeWhetherSinks_19 : decode cX7_seeWhetherSinks 19 = .ok (.invokevirtual 113, 3) := by decide +kernel
theorem dX7_seeWhetherSinks_22 : decode cX7_seeWhetherSinks 22 = .ok (.putfield 83, 3) := by decide +kernel
theorem dX7_seeWhetherSinks_25 : decode cX7_seeWhetherSinks 25 = .ok (.aload_n 0, 1) := by decide +kernel
theorem dX7_seeWhetherSinks_26 : decode cX7_seeWhetherSinks 26 = .ok (.aload_n 0, 1) := by decide +kernel
theorem dX7_seeWhetherSinks_27 : decode cX7_seeWhetherSinks 27 = .ok (.getfield 83, 3) := by decide +kernel
theorem dX7_seeWhetherSinks_30 : decode cX7_seeWhetherSinks 30 = .ok (.ifCond .ne 8, 3) := by decide +kernel
theorem dX7_seeWhetherSinks_33 : decode cX7_seeWhetherSinks 33 = .ok (.bipush (-4), 2) := by decide +kernel
theorem dX7_seeWhetherSinks_35 : decode cX7_seeWhetherSinks 35 = .ok (.goto 7, 3) := by decide +kernel
theorem dX7_seeWhetherSinks_38 : decode cX7_seeWhetherSinks 38 = .ok (.aload_n 0, 1) := by decide +kernel
theorem dX7_seeWhetherSinks_39 : decode cX7_seeWhetherSinks 39 = .ok (.getfield 41, 3) := by decide +kernel
theorem dX7_seeWhetherSinks_42 : decode cX7_seeWhetherSinks 42 = .ok (.putfield 86, 3) := by decide +kernel
theorem dX7_seeWhetherSinks_45 : decode cX7_seeWhetherSinks 45 = .ok (.return_, 1) := by decide +kernel
theorem dX7_passMinute_0 : decode cX7_passMinute 0 = .ok (.aload_n 0, 1) := by decide +kernel
theorem dX7_passMinute_1 : decode cX7_passMinute 1 = .ok (.getfield 83, 3) := by decide +kernel
theorem dX7_passMinute_4 : decode cX7_passMinute 4 = .ok (.ifCond .eq 14, 3) := by decide +kernel
theorem dX7_passMinute_7 : decode cX7_passMinute 7 = .ok (.aload_n 0, 1) := by decide +kernel
theorem dX7_passMinute_8 : decode cX7_passMinute 8 = .ok (.dup, 1) := by decide +kernel
theorem dX7_passMinute_9 : decode cX7_passMinute 9 = .ok (.getfield 41, 3) := by decide +kernel
theorem dX7_passMinute_12 : decode cX7_passMinute 12 = .ok (.iconst 1, 1) := by decide +kernel
theorem dX7_passMinute_13 : decode cX7_passMinute 13 = .ok (.iadd, 1) := by decide +kernel
theorem dX7_passMinute_14 : decode cX7_passMinute 14 = .ok (.putfield 41, 3) := by decide +kernel
theorem dX7_passMinute_17 : decode cX7_passMinute 17 = .ok (.return_, 1) := by decide +kernel
theorem dX7_passMinute_18 : decode cX7_passMinute 18 = .ok (.aload_n 0, 1) := by decide +kernel
theorem dX7_passMinute_19 : decode cX7_passMinute 19 = .ok (.invokevirtual 131, 3) := by decide +kernel
theorem dX7_passMinute_22 : decode cX7_passMinute 22 = .ok (.aload_n 0, 1) := by decide +kernel
theorem dX7_passMinute_23 : decode cX7_passMinute 23 = .ok (.aload_n 1, 1) := by decide +kernel
theorem dX7_passMinute_24 : decode cX7_passMinute 24 = .ok (.invokevirtual 134, 3) := by decide +kernel
theorem dX7_passMinute_27 : decode cX7_passMinute 27 = .ok (.aload_n 0, 1) := by decide +kernel
theorem dX7_passMinute_28 : decode cX7_passMinute 28 = .ok (.aload_n 1, 1) := by decide +kernel
theorem dX7_passMinute_29 : decode cX7_passMinute 29 = .ok (.invokevirtual 137, 3) := by decide +kernel
theorem dX7_passMinute_32 : decode cX7_passMinute 32 = .ok (.aload_n 0, 1) := by decide +kernel
theorem dX7_passMinute_33 : decode cX7_passMinute 33 = .ok (.aload_n 1, 1) := by decide +kernel
theorem dX7_passMinute_34 : decode cX7_passMinute 34 = .ok (.invokevirtual 140, 3) := by decide +kernel
theorem dX7_passMinute_37 : decode cX7_passMinute 37 = .ok (.iconst 0, 1) := by decide +kernel
theorem dX7_passMinute_38 : decode cX7_passMinute 38 = .ok (.istore_n 2, 1) := by decide +kernel
theorem dX7_passMinute_39 : decode cX7_passMinute 39 = .ok (.iload_n 2, 1) := by decide +kernel
theorem dX7_passMinute_40 : decode cX7_passMinute 40 = .ok (.aload_n 1, 1) := by decide +kernel
theorem dX7_passMinute_41 : decode cX7_passMinute 41 = .ok (.getfield 143, 3) := by decide +kernel
theorem dX7_passMinute_44 : decode cX7_passMinute 44 = .ok (.if_icmp .ge 15, 3) := by decide +kernel
theorem dX7_passMinute_47 : decode cX7_passMinute 47 = .ok (.aload_n 0, 1) := by decide +kernel
theorem dX7_passMinute_48 : decode cX7_passMinute 48 = .ok (.aload_n 1, 1) := by decide +kernel
theorem dX7_passMinute_49 : decode cX7_passMinute 49 = .ok (.iload_n 2, 1) := by decide +kernel
theorem dX7_passMinute_50 : decode cX7_passMinute 50 = .ok (.invokevirtual 146, 3) := by decide +kernel
theorem dX7_passMinute_53 : decode cX7_passMinute 53 = .ok (.iinc 2 1, 3) := by decide +kernel
theorem dX7_passMinute_56 : decode cX7_passMinute 56 = .ok (.goto (-17), 3) := by decide +kernel
theorem dX7_passMinute_59 : decode cX7_passMinute 59 = .ok (.aload_n 0, 1) := by decide +kernel
theorem dX7_passMinute_60 : decode cX7_passMinute 60 = .ok (.aload_n 1, 1) := by decide +kernel
theorem dX7_passMinute_61 : decode cX7_passMinute 61 = .ok (.invokevirtual 150, 3) := by decide +kernel
theorem dX7_passMinute_64 : decode cX7_passMinute 64 = .ok (.aload_n 0, 1) := by decide +kernel
theorem dX7_passMinute_65 : decode cX7_passMinute 65 = .ok (.dup, 1) := by decide +kernel
theorem dX7_passMinute_66 : decode cX7_passMinute 66 = .ok (.getfield 41, 3) := by decide +kernel
theorem dX7_passMinute_69 : decode cX7_passMinute 69 = .ok (.iconst 1, 1) := by decide +kernel
theorem dX7_passMinute_70 : decode cX7_passMinute 70 = .ok (.iadd, 1) := by decide +kernel
theorem dX7_passMinute_71 : decode cX7_passMinute 71 = .ok (.putfield 41, 3) := by decide +kernel
theorem dX7_passMinute_74 : decode cX7_passMinute 74 = .ok (.aload_n 0, 1) := by decide +kernel
theorem dX7_passMinute_75 : decode cX7_passMinute 75 = .ok (.aload_n 1, 1) := by decide +kernel
theorem dX7_passMinute_76 : decode cX7_passMinute 76 = .ok (.invokevirtual 71, 3) := by decide +kernel
theorem dX7_passMinute_79 : decode cX7_passMinute 79 = .ok (.return_, 1) := by decide +kernel
theorem dX7_minutesAfloat_0 : decode cX7_minutesAfloat 0 = .ok (.aload_n 0, 1) := by decide +kernel
theorem dX7_minutesAfloat_1 : decode cX7_minutesAfloat 1 = .ok (.getfield 41, 3) := by decide +kernel
theorem dX7_minutesAfloat_4 : decode cX7_minutesAfloat 4 = .ok (.istore_n 3, 1) := by decide +kernel
theorem dX7_minutesAfloat_5 : decode cX7_minutesAfloat 5 = .ok (.aload_n 0, 1) := by decide +kernel
theorem dX7_minutesAfloat_6 : decode cX7_minutesAfloat 6 = .ok (.getfield 37, 3) := by decide +kernel
theorem dX7_minutesAfloat_9 : decode cX7_minutesAfloat 9 = .ok (.aload_n 1, 1) := by decide +kernel
theorem dX7_minutesAfloat_10 : decode cX7_minutesAfloat 10 = .ok (.aload_n 0, 1) := by decide +kernel
theorem dX7_minutesAfloat_11 : decode cX7_minutesAfloat 11 = .ok (.getfield 9, 3) := by decide +kernel
theorem dX7_minutesAfloat_14 : decode cX7_minutesAfloat 14 = .ok (.iconst 0, 1) := by decide +kernel
theorem dX7_minutesAfloat_15 : decode cX7_minutesAfloat 15 = .ok (.invokevirtual 89, 3) := by decide +kernel
theorem dX7_minutesAfloat_18 : decode cX7_minutesAfloat 18 = .ok (.aload_n 0, 1) := by decide +kernel
theorem dX7_minutesAfloat_19 : decode cX7_minutesAfloat 19 = .ok (.aload_n 0, 1) := by decide +kernel
theorem dX7_minutesAfloat_20 : decode cX7_minutesAfloat 20 = .ok (.getfield 37, 3) := by decide +kernel
theorem dX7_minutesAfloat_23 : decode cX7_minutesAfloat 23 = .ok (.getfield 117, 3) := by decide +kernel
theorem dX7_minutesAfloat_26 : decode cX7_minutesAfloat 26 = .ok (.putfield 120, 3) := by decide +kernel
theorem dX7_minutesAfloat_29 : decode cX7_minutesAfloat 29 = .ok (.iconst 0, 1) := by decide +kernel
theorem dX7_minutesAfloat_30 : decode cX7_minutesAfloat 30 = .ok (.istore 4, 2) := by decide +kernel
theorem dX7_minutesAfloat_32 : decode cX7_minutesAfloat 32 = .ok (.iload 4, 2) := by decide +kernel
theorem dX7_minutesAfloat_34 : decode cX7_minutesAfloat 34 = .ok (.iload_n 2, 1) := by decide +kernel
theorem dX7_minutesAfloat_35 : decode cX7_minutesAfloat 35 = .ok (.if_icmp .ge 39, 3) := by decide +kernel
theorem dX7_minutesAfloat_38 : decode cX7_minutesAfloat 38 = .ok (.aload_n 0, 1) := by decide +kernel
theorem dX7_minutesAfloat_39 : decode cX7_minutesAfloat 39 = .ok (.getfield 83, 3) := by decide +kernel
theorem dX7_minutesAfloat_42 : decode cX7_minutesAfloat 42 = .ok (.ifCond .ne 32, 3) := by decide +kernel
theorem dX7_minutesAfloat_45 : decode cX7_minutesAfloat 45 = .ok (.aload_n 0, 1) := by decide +kernel
theorem dX7_minutesAfloat_46 : decode cX7_minutesAfloat 46 = .ok (.aload_n 1, 1) := by decide +kernel
theorem dX7_minutesAfloat_47 : decode cX7_minutesAfloat 47 = .ok (.invokevirtual 123, 3) := by decide +kernel
theorem dX7_minutesAfloat_50 : decode cX7_minutesAfloat 50 = .ok (.aload_n 0, 1) := by decide +kernel
theorem dX7_minutesAfloat_51 : decode cX7_minutesAfloat 51 = .ok (.aload_n 0, 1) := by decide +kernel
theorem dX7_minutesAfloat_52 : decode cX7_minutesAfloat 52 = .ok (.getfield 120, 3) := by decide +kernel
theorem dX7_minutesAfloat_55 : decode cX7_minutesAfloat 55 = .ok (.aload_n 0, 1) := by decide +kernel
theorem dX7_minutesAfloat_56 : decode cX7_minutesAfloat 56 = .ok (.getfield 37, 3) := by decide +kernel
theorem dX7_minutesAfloat_59 : decode cX7_minutesAfloat 59 = .ok (.getfield 117, 3) := by decide +kernel
theorem dX7_minutesAfloat_62 : decode cX7_minutesAfloat 62 = .ok (.invokestatic 126, 3) := by decide +kernel
theorem dX7_minutesAfloat_65 : decode cX7_minutesAfloat 65 = .ok (.putfield 120, 3) := by decide +kernel
theorem dX7_minutesAfloat_68 : decode cX7_minutesAfloat 68 = .ok (.iinc 4 1, 3) := by decide +kernel
theorem dX7_minutesAfloat_71 : decode cX7_minutesAfloat 71 = .ok (.goto (-39), 3) := by decide +kernel
theorem dX7_minutesAfloat_74 : decode cX7_minutesAfloat 74 = .ok (.aload_n 0, 1) := by decide +kernel
theorem dX7_minutesAfloat_75 : decode cX7_minutesAfloat 75 = .ok (.getfield 83, 3) := by decide +kernel
theorem dX7_minutesAfloat_78 : decode cX7_minutesAfloat 78 = .ok (.ifCond .ne 8, 3) := by decide +kernel
theorem dX7_minutesAfloat_81 : decode cX7_minutesAfloat 81 = .ok (.bipush (-4), 2) := by decide +kernel
theorem dX7_minutesAfloat_83 : decode cX7_minutesAfloat 83 = .ok (.goto 13, 3) := by decide +kernel
theorem dX7_minutesAfloat_86 : decode cX7_minutesAfloat 86 = .ok (.iconst 0, 1) := by decide +kernel
theorem dX7_minutesAfloat_87 : decode cX7_minutesAfloat 87 = .ok (.aload_n 0, 1) := by decide +kernel
theorem dX7_minutesAfloat_88 : decode cX7_minutesAfloat 88 = .ok (.getfield 86, 3) := by decide +kernel
theorem dX7_minutesAfloat_91 : decode cX7_minutesAfloat 91 = .ok (.iload_n 3, 1) := by decide +kernel
theorem dX7_minutesAfloat_92 : decode cX7_minutesAfloat 92 = .ok (.isub, 1) := by decide +kernel
theorem dX7_minutesAfloat_93 : decode cX7_minutesAfloat 93 = .ok (.invokestatic 126, 3) := by decide +kernel
theorem dX7_minutesAfloat_96 : decode cX7_minutesAfloat 96 = .ok (.ireturn, 1) := by decide +kernel
theorem dX7_waterInAll_0 : decode cX7_waterInAll 0 = .ok (.aload_n 0, 1) := by decide +kernel
theorem dX7_waterInAll_1 : decode cX7_waterInAll 1 = .ok (.getfield 37, 3) := by decide +kernel
theorem dX7_waterInAll_4 : decode cX7_waterInAll 4 = .ok (.aload_n 1, 1) := by decide +kernel
theorem dX7_waterInAll_5 : decode cX7_waterInAll 5 = .ok (.aload_n 0, 1) := by decide +kernel
theorem dX7_waterInAll_6 : decode cX7_waterInAll 6 = .ok (.getfield 9, 3) := by decide +kernel
theorem dX7_waterInAll_9 : decode cX7_waterInAll 9 = .ok (.iconst 0, 1) := by decide +kernel
theorem dX7_waterInAll_10 : decode cX7_waterInAll 10 = .ok (.invokevirtual 89, 3) := by decide +kernel
theorem dX7_waterInAll_13 : decode cX7_waterInAll 13 = .ok (.aload_n 0, 1) := by decide +kernel
theorem dX7_waterInAll_14 : decode cX7_waterInAll 14 = .ok (.getfield 37, 3) := by decide +kernel
theorem dX7_waterInAll_17 : decode cX7_waterInAll 17 = .ok (.getfield 93, 3) := by decide +kernel
theorem dX7_waterInAll_20 : decode cX7_waterInAll 20 = .ok (.ireturn, 1) := by decide +kernel
theorem dX4_findBest_0 : decode cX4_findBest 0 = .ok (.aload_n 0, 1) := by decide +kernel
theorem dX4_findBest_1 : decode cX4_findBest 1 = .ok (.aload_n 1, 1) := by decide +kernel
theorem dX4_findBest_2 : decode cX4_findBest 2 = .ok (.aload_n 2, 1) := by decide +kernel
theorem dX4_findBest_3 : decode cX4_findBest 3 = .ok (.invokevirtual 28, 3) := by decide +kernel
theorem dX4_findBest_6 : decode cX4_findBest 6 = .ok (.aload_n 0, 1) := by decide +kernel
theorem dX4_findBest_7 : decode cX4_findBest 7 = .ok (.getfield 32, 3) := by decide +kernel
theorem dX4_findBest_10 : decode cX4_findBest 10 = .ok (.iload 4, 2) := by decide +kernel
theorem dX4_findBest_12 : decode cX4_findBest 12 = .ok (.if_icmp .ge 5, 3) := by decide +kernel
theorem dX4_findBest_15 : decode cX4_findBest 15 = .ok (.iconst 0, 1) := by decide +kernel
theorem dX4_findBest_16 : decode cX4_findBest 16 = .ok (.ireturn, 1) := by decide +kernel
theorem dX4_findBest_17 : decode cX4_findBest 17 = .ok (.iload 4, 2) := by decide +kernel
theorem dX4_findBest_19 : decode cX4_findBest 19 = .ok (.aload_n 0, 1) := by decide +kernel
theorem dX4_findBest_20 : decode cX4_findBest 20 = .ok (.getfield 24, 3) := by decide +kernel
theorem dX4_findBest_23 : decode cX4_findBest 23 = .ok (.if_icmp .ne 14, 3) := by decide +kernel
theorem dX4_findBest_26 : decode cX4_findBest 26 = .ok (.iload 5, 2) := by decide +kernel
theorem dX4_findBest_28 : decode cX4_findBest 28 = .ok (.aload_n 0, 1) := by decide +kernel
theorem dX4_findBest_29 : decode cX4_findBest 29 = .ok (.getfield 35, 3) := by decide +kernel
theorem dX4_findBest_32 : decode cX4_findBest 32 = .ok (.if_icmp .ne 5, 3) := by decide +kernel
theorem dX4_findBest_35 : decode cX4_findBest 35 = .ok (.iconst 1, 1) := by decide +kernel
theorem dX4_findBest_36 : decode cX4_findBest 36 = .ok (.ireturn, 1) := by decide +kernel
theorem dX4_findBest_37 : decode cX4_findBest 37 = .ok (.aload_n 0, 1) := by decide +kernel
theorem dX4_findBest_38 : decode cX4_findBest 38 = .ok (.iconst 0, 1) := by decide +kernel
theorem dX4_findBest_39 : decode cX4_findBest 39 = .ok (.putfield 38, 3) := by decide +kernel
theorem dX4_findBest_42 : decode cX4_findBest 42 = .ok (.iconst 1, 1) := by decide +kernel
theorem dX4_findBest_43 : decode cX4_findBest 43 = .ok (.istore 6, 2) := by decide +kernel
theorem dX4_findBest_45 : decode cX4_findBest 45 = .ok (.iconst 0, 1) := by decide +kernel
theorem dX4_findBest_46 : decode cX4_findBest 46 = .ok (.istore 7, 2) := by decide +kernel
theorem dX4_findBest_48 : decode cX4_findBest 48 = .ok (.iload 7, 2) := by decide +kernel
theorem dX4_findBest_50 : decode cX4_findBest 50 = .ok (.iload 4, 2) := by decide +kernel
theorem dX4_findBest_52 : decode cX4_findBest 52 = .ok (.if_icmp .ge 18, 3) := by decide +kernel
theorem dX4_findBest_55 : decode cX4_findBest 55 = .ok (.iload 6, 2) := by decide +kernel
theorem dX4_findBest_57 : decode cX4_findBest 57 = .ok (.aload_n 0, 1) := by decide +kernel
theorem dX4_findBest_58 : decode cX4_findBest 58 = .ok (.getfield 32, 3) := by decide +kernel
theorem dX4_findBest_61 : decode cX4_findBest 61 = .ok (.imul, 1) := by decide +kernel
theorem dX4_findBest_62 : decode cX4_findBest 62 = .ok (.istore 6, 2) := by decide +kernel
theorem dX4_findBest_64 : decode cX4_findBest 64 = .ok (.iinc 7 1, 3) := by decide +kernel
theorem dX4_findBest_67 : decode cX4_findBest 67 = .ok (.goto (-19), 3) := by decide +kernel
theorem dX4_findBest_70 : decode cX4_findBest 70 = .ok (.iconst 0, 1) := by decide +kernel
theorem dX4_findBest_71 : decode cX4_findBest 71 = .ok (.istore 7, 2) := by decide +kernel
theorem dX4_findBest_73 : decode cX4_findBest 73 = .ok (.iload 7, 2) := by decide +kernel
theorem dX4_findBest_75 : decode cX4_findBest 75 = .ok (.iload 6, 2) := by decide +kernel
theorem dX4_findBest_77 : decode cX4_findBest 77 = .ok (.if_icmp .ge 53, 3) := by decide +kernel
theorem dX4_findBest_80 : decode cX4_findBest 80 = .ok (.aload_n 0, 1) := by decide +kernel
theorem dX4_findBest_81 : decode cX4_findBest 81 = .ok (.iload 7, 2) := by decide +kernel
theorem dX4_findBest_83 : decode cX4_findBest 83 = .ok (.iload 4, 2) := by decide +kernel
theorem dX4_findBest_85 : decode cX4_findBest 85 = .ok (.invokevirtual 42, 3) := by decide +kernel
theorem dX4_findBest_88 : decode cX4_findBest 88 = .ok (.ifCond .eq 36, 3) := by decide +kernel
theorem dX4_findBest_91 : decode cX4_findBest 91 = .ok (.aload_n 3, 1) := by decide +kernel
theorem dX4_findBest_92 : decode cX4_findBest 92 = .ok (.aload_n 2, 1) := by decide +kernel
theorem dX4_findBest_93 : decode cX4_findBest 93 = .ok (.invokevirtual 46, 3) := by decide +kernel
theorem dX4_findBest_96 : decode cX4_findBest 96 = .ok (.aload_n 0, 1) := by decide +kernel
theorem dX4_findBest_97 : decode cX4_findBest 97 = .ok (.aload_n 1, 1) := by decide +kernel
theorem dX4_findBest_98 : decode cX4_findBest 98 = .ok (.aload_n 3, 1) := by decide +kernel
theorem dX4_findBest_99 : decode cX4_findBest 99 = .ok (.iload 4, 2) := by decide +kernel
theorem dX4_findBest_101 : decode cX4_findBest 101 = .ok (.invokevirtual 52, 3) := by decide +kernel
theorem dX4_findBest_104 : decode cX4_findBest 104 = .ok (.aload_n 3, 1) := by decide +kernel
theorem dX4_findBest_105 : decode cX4_findBest 105 = .ok (.aload_n 1, 1) := by decide +kernel
theorem dX4_findBest_106 : decode cX4_findBest 106 = .ok (.iload 5, 2) := by decide +kernel
theorem dX4_findBest_108 : decode cX4_findBest 108 = .ok (.invokevirtual 56, 3) := by decide +kernel
theorem dX4_findBest_111 : decode cX4_findBest 111 = .ok (.istore 8, 2) := by decide +kernel
theorem dX4_findBest_113 : decode cX4_findBest 113 = .ok (.aload_n 0, 1) := by decide +kernel
theorem dX4_findBest_114 : decode cX4_findBest 114 = .ok (.iload 8, 2) := by decide +kernel
theorem dX4_findBest_116 : decode cX4_findBest 116 = .ok (.aload_n 3, 1) := by decide +kernel
theorem dX4_findBest_117 : decode cX4_findBest 117 = .ok (.aload_n 1, 1) := by decide +kernel
theorem dX4_findBest_118 : decode cX4_findBest 118 = .ok (.invokevirtual 60, 3) := by decide +kernel
theorem dX4_findBest_121 : decode cX4_findBest 121 = .ok (.invokevirtual 64, 3) := by decide +kernel
theorem dX4_findBest_124 : decode cX4_findBest 124 = .ok (.iinc 7 1, 3) := by decide +kernel
theorem dX4_findBest_127 : decode cX4_findBest 127 = .ok (.goto (-54), 3) := by decide +kernel
theorem dX4_findBest_130 : decode cX4_findBest 130 = .ok (.aload_n 0, 1) := by decide +kernel
theorem dX4_findBest_131 : decode cX4_findBest 131 = .ok (.iload 4, 2) := by decide +kernel
theorem dX4_findBest_133 : decode cX4_findBest 133 = .ok (.putfield 24, 3) := by decide +kernel
theorem dX4_findBest_136 : decode cX4_findBest 136 = .ok (.aload_n 0, 1) := by decide +kernel
theorem dX4_findBest_137 : decode cX4_findBest 137 = .ok (.iload 5, 2) := by decide +kernel
theorem dX4_findBest_139 : decode cX4_findBest 139 = .ok (.putfield 35, 3) := by decide +kernel
theorem dX4_findBest_142 : decode cX4_findBest 142 = .ok (.iconst 1, 1) := by decide +kernel
theorem dX4_findBest_143 : decode cX4_findBest 143 = .ok (.ireturn, 1) := by decide +kernel
theorem dX4_forget_0 : decode cX4_forget 0 = .ok (.aload_n 0, 1) := by decide +kernel
theorem dX4_forget_1 : decode cX4_forget 1 = .ok (.bipush (-4), 2) := by decide +kernel
theorem dX4_forget_3 : decode cX4_forget 3 = .ok (.putfield 24, 3) := by decide +kernel
theorem dX4_forget_6 : decode cX4_forget 6 = .ok (.return_, 1) := by decide +kernel
theorem dX5_renew_0 : decode cX5_renew 0 = .ok (.aload_n 0, 1) := by decide +kernel
theorem dX5_renew_1 : decode cX5_renew 1 = .ok (.iload_n 1, 1) := by decide +kernel
theorem dX5_renew_2 : decode cX5_renew 2 = .ok (.putfield 19, 3) := by decide +kernel
theorem dX5_renew_5 : decode cX5_renew 5 = .ok (.aload_n 0, 1) := by decide +kernel
theorem dX5_renew_6 : decode cX5_renew 6 = .ok (.iload_n 2, 1) := by decide +kernel
theorem dX5_renew_7 : decode cX5_renew 7 = .ok (.putfield 9, 3) := by decide +kernel
theorem dX5_renew_10 : decode cX5_renew 10 = .ok (.aload_n 0, 1) := by decide +kernel
theorem dX5_renew_11 : decode cX5_renew 11 = .ok (.getfield 15, 3) := by decide +kernel
theorem dX5_renew_14 : decode cX5_renew 14 = .ok (.iconst 0, 1) := by decide +kernel
theorem dX5_renew_15 : decode cX5_renew 15 = .ok (.invokestatic 22, 3) := by decide +kernel
theorem dX5_renew_18 : decode cX5_renew 18 = .ok (.return_, 1) := by decide +kernel
theorem dX5_store_0 : decode cX5_store 0 = .ok (.aload_n 0, 1) := by decide +kernel
theorem dX5_store_1 : decode cX5_store 1 = .ok (.getfield 15, 3) := by decide +kernel
theorem dX5_store_4 : decode cX5_store 4 = .ok (.iload_n 1, 1) := by decide +kernel
theorem dX5_store_5 : decode cX5_store 5 = .ok (.aload_n 0, 1) := by decide +kernel
theorem dX5_store_6 : decode cX5_store 6 = .ok (.getfield 19, 3) := by decide +kernel
theorem dX5_store_9 : decode cX5_store 9 = .ok (.ifCond .ne 8, 3) := by decide +kernel
theorem dX5_store_12 : decode cX5_store 12 = .ok (.iload_n 2, 1) := by decide +kernel
theorem dX5_store_13 : decode cX5_store 13 = .ok (.i2b, 1) := by decide +kernel
theorem dX5_store_14 : decode cX5_store 14 = .ok (.goto 17, 3) := by decide +kernel
theorem dX5_store_17 : decode cX5_store 17 = .ok (.aload_n 0, 1) := by decide +kernel
theorem dX5_store_18 : decode cX5_store 18 = .ok (.getfield 19, 3) := by decide +kernel
theorem dX5_store_21 : decode cX5_store 21 = .ok (.iconst 1, 1) := by decide +kernel
theorem dX5_store_22 : decode cX5_store 22 = .ok (.if_icmp .ne 8, 3) := by decide +kernel
theorem dX5_store_25 : decode cX5_store 25 = .ok (.iload_n 2, 1) := by decide +kernel
theorem dX5_store_26 : decode cX5_store 26 = .ok (.i2s, 1) := by decide +kernel
theorem dX5_store_27 : decode cX5_store 27 = .ok (.goto 4, 3) := by decide +kernel
theorem dX5_store_30 : decode cX5_store 30 = .ok (.iload_n 2, 1) := by decide +kernel
theorem dX5_store_31 : decode cX5_store 31 = .ok (.iastore, 1) := by decide +kernel
theorem dX5_store_32 : decode cX5_store 32 = .ok (.return_, 1) := by decide +kernel
theorem dX5_tearAt_0 : decode cX5_tearAt 0 = .ok (.aload_n 0, 1) := by decide +kernel
theorem dX5_tearAt_1 : decode cX5_tearAt 1 = .ok (.getfield 9, 3) := by decide +kernel
theorem dX5_tearAt_4 : decode cX5_tearAt 4 = .ok (.bipush (-4), 2) := by decide +kernel
theorem dX5_tearAt_6 : decode cX5_tearAt 6 = .ok (.if_icmp .ne 5, 3) := by decide +kernel
theorem dX5_tearAt_9 : decode cX5_tearAt 9 = .ok (.iconst 1, 1) := by decide +kernel
theorem dX5_tearAt_10 : decode cX5_tearAt 10 = .ok (.ireturn, 1) := by decide +kernel
theorem dX5_tearAt_11 : decode cX5_tearAt 11 = .ok (.iload_n 1, 1) := by decide +kernel
theorem dX5_tearAt_12 : decode cX5_tearAt 12 = .ok (.aload_n 0, 1) := by decide +kernel
theorem dX5_tearAt_13 : decode cX5_tearAt 13 = .ok (.getfield 19, 3) := by decide +kernel
theorem dX5_tearAt_16 : decode cX5_tearAt 16 = .ok (.if_icmp .eq 5, 3) := by decide +kernel
theorem dX5_tearAt_19 : decode cX5_tearAt 19 = .ok (.iconst 3, 1) := by decide +kernel
theorem dX5_tearAt_20 : decode cX5_tearAt 20 = .ok (.ireturn, 1) := by decide +kernel
theorem dX5_tearAt_21 : decode cX5_tearAt 21 = .ok (.iload_n 2, 1) := by decide +kernel
theorem dX5_tearAt_22 : decode cX5_tearAt 22 = .ok (.ifCond .lt 13, 3) := by decide +kernel
theorem dX5_tearAt_25 : decode cX5_tearAt 25 = .ok (.iload_n 2, 1) := by decide +kernel
theorem dX5_tearAt_26 : decode cX5_tearAt 26 = .ok (.aload_n 0, 1) := by decide +kernel
theorem dX5_tearAt_27 : decode cX5_tearAt 27 = .ok (.getfield 9, 3) := by decide +kernel
theorem dX5_tearAt_30 : decode cX5_tearAt 30 = .ok (.iload_n 3, 1) := by decide +kernel
theorem dX5_tearAt_31 : decode cX5_tearAt 31 = .ok (.isub, 1) := by decide +kernel
theorem dX5_tearAt_32 : decode cX5_tearAt 32 = .ok (.if_icmp .le 7, 3) := by decide +kernel
theorem dX5_tearAt_35 : decode cX5_tearAt 35 = .ok (.iconst 2, 1) := by decide +kernel
theorem dX5_tearAt_36 : decode cX5_tearAt 36 = .ok (.goto 4, 3) := by decide +kernel
theorem dX5_tearAt_39 : decode cX5_tearAt 39 = .ok (.iconst 0, 1) := by decide +kernel
theorem dX5_tearAt_40 : decode cX5_tearAt 40 = .ok (.ireturn, 1) := by decide +kernel
theorem dX6_append_0 : decode cX6_append 0 = .ok (.iload_n 1, 1) := by decide +kernel
theorem dX6_append_1 : decode cX6_append 1 = .ok (.ifCond .lt 9, 3) := by decide +kernel
theorem dX6_append_4 : decode cX6_append 4 = .ok (.iload_n 1, 1) := by decide +kernel
theorem dX6_append_5 : decode cX6_append 5 = .ok (.bipush 99, 2) := by decide +kernel
theorem dX6_append_7 : decode cX6_append 7 = .ok (.if_icmp .le 5, 3) := by decide +kernel
theorem dX6_append_10 : decode cX6_append 10 = .ok (.iconst (-1), 1) := by decide +kernel
theorem dX6_append_11 : decode cX6_append 11 = .ok (.ireturn, 1) := by decide +kernel
theorem dX6_append_12 : decode cX6_append 12 = .ok (.aload_n 0, 1) := by decide +kernel
theorem dX6_append_13 : decode cX6_append 13 = .ok (.getfield 15, 3) := by decide +kernel
theorem dX6_append_16 : decode cX6_append 16 = .ok (.bipush 8, 2) := by decide +kernel
theorem dX6_append_18 : decode cX6_append 18 = .ok (.if_icmp .lt 6, 3) := by decide +kernel
theorem dX6_append_21 : decode cX6_append 21 = .ok (.bipush (-3), 2) := by decide +kernel
theorem dX6_append_23 : decode cX6_append 23 = .ok (.ireturn, 1) := by decide +kernel
theorem dX6_append_24 : decode cX6_append 24 = .ok (.aload_n 0, 1) := by decide +kernel
theorem dX6_append_25 : decode cX6_append 25 = .ok (.getfield 9, 3) := by decide +kernel
theorem dX6_append_28 : decode cX6_append 28 = .ok (.aload_n 0, 1) := by decide +kernel
theorem dX6_append_29 : decode cX6_append 29 = .ok (.dup, 1) := by decide +kernel
theorem dX6_append_30 : decode cX6_append 30 = .ok (.getfield 15, 3) := by decide +kernel
theorem dX6_append_33 : decode cX6_append 33 = .ok (.dup_x1, 1) := by decide +kernel
theorem dX6_append_34 : decode cX6_append 34 = .ok (.iconst 1, 1) := by decide +kernel
theorem dX6_append_35 : decode cX6_append 35 = .ok (.iadd, 1) := by decide +kernel
theorem dX6_append_36 : decode cX6_append 36 = .ok (.putfield 15, 3) := by decide +kernel
theorem dX6_append_39 : decode cX6_append 39 = .ok (.iload_n 1, 1) := by decide +kernel
theorem dX6_append_40 : decode cX6_append 40 = .ok (.iastore, 1) := by decide +kernel
theorem dX6_append_41 : decode cX6_append 41 = .ok (.aload_n 0, 1) := by decide +kernel
theorem dX6_append_42 : decode cX6_append 42 = .ok (.getfield 15, 3) := by decide +kernel
theorem dX6_append_45 : decode cX6_append 45 = .ok (.ireturn, 1) := by decide +kernel
theorem dX6_clear_0 : decode cX6_clear 0 = .ok (.aload_n 0, 1) := by decide +kernel
theorem dX6_clear_1 : decode cX6_clear 1 = .ok (.getfield 15, 3) := by decide +kernel
theorem dX6_clear_4 : decode cX6_clear 4 = .ok (.istore_n 1, 1) := by decide +kernel
theorem dX6_clear_5 : decode cX6_clear 5 = .ok (.aload_n 0, 1) := by decide +kernel
theorem dX6_clear_6 : decode cX6_clear 6 = .ok (.iconst 0, 1) := by decide +kernel
theorem dX6_clear_7 : decode cX6_clear 7 = .ok (.putfield 15, 3) := by decide +kernel
theorem dX6_clear_10 : decode cX6_clear 10 = .ok (.iload_n 1, 1) := by decide +kernel
theorem dX6_clear_11 : decode cX6_clear 11 = .ok (.ireturn, 1) := by decide +kernel
def b_X7_pumpOut_2 (S : Nat) (Q : Nat) (t1 : Int32 × Mm) : Option ((Int32 × Mm) ⊕ (Mm)) :=
  if (t1.2 Q 3) ≤ t1.1 then (some (Sum.inr t1.2)) else ((ald t1.2 (S + 5) 3 t1.1).bind fun x3 => (if x3 < 0 then (some t1.2) else (if (t1.2 Q 0) ≤ x3 then (some t1.2) else ((ald t1.2 (S + 1) 8 x3).bind fun x5 => (ald t1.2 (Q + 14) 3 t1.1).bind fun x6 => (ast t1.2 (S + 1) 8 x3 (imax (0 : Int32) (x5 - x6))).bind fun m7 => some m7)) : Option (Mm)).bind fun y4 => some (Sum.inl (t1.1 + 1, y4)))
def f_X7_pumpOut (F : Nat) (m : Mm) (S : Nat) (Q : Nat) : Option (Mm) :=
  (iter F (b_X7_pumpOut_2 S Q) ((0, m) : Int32 × Mm)).bind (fun e2 : Mm => some e2)
set_option maxHeartbeats 4000000 in
set_option maxRecDepth 100000 in
theorem ct_X7_pumpOut (F : Nat) {n : Nat} (hn : 113 ≤ n) (P D : Nat) (T : Option Nat) (m : Mm) (S : Nat) (hS : isSt S) (Q : Nat) (hQ : isPl Q) : Ct yX7_pumpOut cX7_pumpOut 4 none 1 21 [.ref S, .ref Q] n n m (RF P D T) (rV (RF P D T) (f_X7_pumpOut F m S Q)) := by
  refine Ct.ofV (own := RX7) (nm := "pumpOut") [(0, .ref S), (1, .ref Q)] (by decide) (Nat.le_of_ble_eq_true rfl) rfl rfl rfl ?_
  unfold f_X7_pumpOut
  refine J_iconst 0 dX7_pumpOut_0 (by decide) ?_
  refine J_istore_n 2 [(2, .int 0), (0, .ref S), (1, .ref Q)] dX7_pumpOut_1 rfl (by decide) rfl ?_
  refine J_lv [1, 2, 0] rfl ?_
  refine J_loop (pc := 2) (fun t1 : Int32 × Mm => [(0, .ref S), (1, .ref Q), (2, .int t1.1)]) (fun t1 => t1.2) (fun _ => 58) (fun e2 => []) (fun _ => []) (fun e2 => e2) ?_ (fun t1 k1 hBt1 hXt1 => ?_) F ((0, m))
  · refine fun e2 => ?_
    exact J_vretV dX7_pumpOut_58 rfl rfl
  · unfold b_X7_pumpOut_2
    refine J_iload_n 2 2 t1.1 dX7_pumpOut_2 rfl rfl ?_
    refine J_aload_n 1 1 Q dX7_pumpOut_3 rfl rfl ?_
    refine J_getI Q 1 3 dX7_pumpOut_4 fl_7_221 (layc_Pl_0 hQ) rfl (lt_Pl_0 hQ hn) ?_
    refine J_icmp_ge 58 dX7_pumpOut_7 (by decide) ?_ ?_
    · exact J_lv [] rfl (hXt1 t1.2)
    · refine J_aload_n 0 0 S dX7_pumpOut_10 rfl rfl ?_
      refine J_getR S 7 8 (S + 5) dX7_pumpOut_11 fl_7_24 (layc_St_0 hS) rfl (lt_St_0 hS hn) (rf_St_0_8 hS) ?_
      refine J_iload_n 2 2 t1.1 dX7_pumpOut_14 rfl rfl ?_
      refine J_iald (S + 5) 3 dX7_pumpOut_15 (lay_St_5 hS) (lt_St_5 hS hn) (fun x3 => ?_)
      refine J_istore_n 3 [(3, .int x3), (0, .ref S), (1, .ref Q), (2, .int t1.1)] dX7_pumpOut_16 rfl (by decide) rfl ?_
      refine J_iload_n 3 0 x3 dX7_pumpOut_17 rfl rfl ?_
      refine J_seqJ 52 (fun y4 : Mm => [(0, .ref S), (1, .ref Q), (2, .int t1.1)]) (fun y4 => []) (fun y4 => y4) (fun y4 => ?_) (fun k1 hEy4 => ?_)
      · refine J_iinc 2 2 [(2, .int (t1.1 + 1)), (0, .ref S), (1, .ref Q)] t1.1 (t1.1 + 1) dX7_pumpOut_52 rfl rfl (by decide) rfl ?_
        refine J_goto 2 dX7_pumpOut_55 (by decide) ?_
        exact J_lv [1, 2, 0] rfl (hBt1 (t1.1 + 1, y4))
      · refine J_if_lt 52 dX7_pumpOut_18 (by decide) ?_ ?_
        · exact J_lv [1, 2, 3] rfl (hEy4 t1.2)
        · refine J_iload_n 3 0 x3 dX7_pumpOut_21 rfl rfl ?_
          refine J_aload_n 1 2 Q dX7_pumpOut_22 rfl rfl ?_
          refine J_getI Q 1 0 dX7_pumpOut_23 fl_7_203 (layc_Pl_0 hQ) rfl (lt_Pl_0 hQ hn) ?_
          refine J_icmp_ge 52 dX7_pumpOut_26 (by decide) ?_ ?_
          · exact J_lv [1, 2, 3] rfl (hEy4 t1.2)
          · refine J_aload_n 0 1 S dX7_pumpOut_29 rfl rfl ?_
            refine J_getR S 7 4 (S + 1) dX7_pumpOut_30 fl_7_9 (layc_St_0 hS) rfl (lt_St_0 hS hn) (rf_St_0_4 hS) ?_
            refine J_iload_n 3 0 x3 dX7_pumpOut_33 rfl rfl ?_
            refine J_iconst 0 dX7_pumpOut_34 (by decide) ?_
            refine J_aload_n 0 1 S dX7_pumpOut_35 rfl rfl ?_
            refine J_getR S 7 4 (S + 1) dX7_pumpOut_36 fl_7_9 (layc_St_0 hS) rfl (lt_St_0 hS hn) (rf_St_0_4 hS) ?_
            refine J_iload_n 3 0 x3 dX7_pumpOut_39 rfl rfl ?_
            refine J_iald (S + 1) 8 dX7_pumpOut_40 (lay_St_1 hS) (lt_St_1 hS hn) (fun x5 => ?_)
            refine J_aload_n 1 2 Q dX7_pumpOut_41 rfl rfl ?_
            refine J_getR Q 1 17 (Q + 14) dX7_pumpOut_42 fl_7_224 (layc_Pl_0 hQ) rfl (lt_Pl_0 hQ hn) (rf_Pl_0_17 hQ) ?_
            refine J_iload_n 2 3 t1.1 dX7_pumpOut_45 rfl rfl ?_
            refine J_iald (Q + 14) 3 dX7_pumpOut_46 (lay_Pl_14 hQ) (lt_Pl_14 hQ hn) (fun x6 => ?_)
            refine J_isub dX7_pumpOut_47 ?_
            refine J_mmax dX7_pumpOut_48 lk_7_126 (by decide) (Nat.le_of_ble_eq_true rfl) ?_
            refine J_iast (S + 1) 8 dX7_pumpOut_51 (lay_St_1 hS) (lt_St_1 hS hn) (fun m7 => ?_)
            exact J_lv [1, 2, 3] rfl (hEy4 m7)
def f_X7_seeWhetherSinks (F : Nat) (m : Mm) (S : Nat) (Q : Nat) : Option (Mm) :=
  (f_X3_weigh F m (S + 13) Q (S + 1) 0).bind fun m2 => (f_X3_whySinks m2 (S + 13) Q).bind fun x3 => letv (up2 m2 S 1 x3) fun m5 => (if (m5 S 1) = 0 then (some (-4)) else (some (m5 S 0)) : Option (Int32)).bind fun y6 => letv (up2 m5 S 2 y6) fun m7 => some m7
set_option maxHeartbeats 4000000 in
set_option maxRecDepth 100000 in
theorem ct_X7_seeWhetherSinks (F : Nat) {n : Nat} (hn : 113 ≤ n) (P D : Nat) (T : Option Nat) (m : Mm) (S : Nat) (hS : isSt S) (Q : Nat) (hQ : isPl Q) : Ct yX7_seeWhetherSinks cX7_seeWhetherSinks 2 none 2 48 [.ref S, .ref Q] n n m (RF P D T) (rV (RF P D T) (f_X7_seeWhetherSinks F m S Q)) := by
  refine Ct.ofV (own := RX7) (nm := "seeWhetherSinks") [(0, .ref S), (1, .ref Q)] (by decide) (Nat.le_of_ble_eq_true rfl) rfl rfl rfl ?_
  unfold f_X7_seeWhetherSinks
  refine J_aload_n 0 0 S dX7_seeWhetherSinks_0 rfl rfl ?_
  refine J_getR S 7 10 (S + 13) dX7_seeWhetherSinks_1 fl_7_37 (layc_St_0 hS) rfl (lt_St_0 hS hn) (rf_St_0_10 hS) ?_
  refine J_aload_n 1 1 Q dX7_seeWhetherSinks_4 rfl rfl ?_
  refine J_aload_n 0 0 S dX7_seeWhetherSinks_5 rfl rfl ?_
  refine J_getR S 7 4 (S + 1) dX7_seeWhetherSinks_6 fl_7_9 (layc_St_0 hS) rfl (lt_St_0 hS hn) (rf_St_0_4 hS) ?_
  refine J_iconst 0 dX7_seeWhetherSinks_9 (by decide) ?_
  refine J_callVV (S + 13) 3 3 [.ref Q, .ref (S + 1), .int 0] dX7_seeWhetherSinks_10 mv_X3_weigh mv_X3_weighv lk_7_89 (ct_X3_weigh F hn P D T m (S + 13) (sc_St hS) Q hQ (S + 1) (wt_St hS) 0) rfl (layc_St_13 hS) (by decide) rfl (lt_St_13 hS hn) ⟨by decide, by decide⟩ (Nat.le_of_ble_eq_true rfl) (fun m2 => ?_)
  refine J_aload_n 0 0 S dX7_seeWhetherSinks_13 rfl rfl ?_
  refine J_aload_n 0 0 S dX7_seeWhetherSinks_14 rfl rfl ?_
  refine J_getR S 7 10 (S + 13) dX7_seeWhetherSinks_15 fl_7_37 (layc_St_0 hS) rfl (lt_St_0 hS hn) (rf_St_0_10 hS) ?_
  refine J_aload_n 1 1 Q dX7_seeWhetherSinks_18 rfl rfl ?_
  refine J_callVP (S + 13) 3 1 [.ref Q] dX7_seeWhetherSinks_19 mv_X3_whySinks mv_X3_whySinksv lk_7_113 (ct_X3_whySinks F hn P D T m2 (S + 13) (sc_St hS) Q hQ) rfl (layc_St_13 hS) (by decide) rfl (lt_St_13 hS hn) ⟨by decide, by decide⟩ (Nat.le_of_ble_eq_true rfl) (fun x3 => ?_)
  refine J_putI S 7 1 dX7_seeWhetherSinks_22 fl_7_83 (layc_St_0 hS) rfl (lt_St_0 hS hn) rfl rfl rfl (fun m5 => ?_)
  refine J_aload_n 0 0 S dX7_seeWhetherSinks_25 rfl rfl ?_
  refine J_aload_n 0 0 S dX7_seeWhetherSinks_26 rfl rfl ?_
  refine J_getI S 7 1 dX7_seeWhetherSinks_27 fl_7_83 (layc_St_0 hS) rfl (lt_St_0 hS hn) ?_
  refine J_seqJ 42 (fun y6 : Int32 => []) (fun y6 => [.int y6, .ref S]) (fun y6 => m5) (fun y6 => ?_) (fun k1 hEy6 => ?_)
  · refine J_putI S 7 2 dX7_seeWhetherSinks_42 fl_7_86 (layc_St_0 hS) rfl (lt_St_0 hS hn) rfl rfl rfl (fun m7 => ?_)
    exact J_vretV dX7_seeWhetherSinks_45 rfl rfl
  · refine J_if_ne 38 dX7_seeWhetherSinks_30 (by decide) ?_ ?_
    · refine J_aload_n 0 0 S dX7_seeWhetherSinks_38 rfl rfl ?_
      refine J_getI S 7 0 dX7_seeWhetherSinks_39 fl_7_41 (layc_St_0 hS) rfl (lt_St_0 hS hn) ?_
      exact J_lv [] rfl (hEy6 (m5 S 0))
    · refine J_bipush (-4) dX7_seeWhetherSinks_33 (by decide) ?_
      refine J_goto 42 dX7_seeWhetherSinks_35 (by decide) ?_
      exact J_lv [] rfl (hEy6 (-4))
def b_X7_passMinute_39 (F : Nat) (S : Nat) (Q : Nat) (t9 : Int32 × Mm) : Option ((Int32 × Mm) ⊕ (Mm)) :=
  if (t9.2 Q 1) ≤ t9.1 then (some (Sum.inr t9.2)) else ((f_X7_flowThroughDoor F t9.2 S Q t9.1).bind fun m12 => some (Sum.inl (t9.1 + 1, m12)))
def f_X7_passMinute (F : Nat) (m : Mm) (S : Nat) (Q : Nat) : Option (Mm) :=
  if (m S 1) = 0 then ((f_X7_endOrders F m S).bind fun m2 => (f_X7_beginOrders F m2 S Q).bind fun m4 => (f_X7_comeThroughHoles F m4 S Q).bind fun m6 => (f_X7_comeThroughValves F m6 S Q).bind fun m8 => (iter F (b_X7_passMinute_39 F S Q) ((0, m8) : Int32 × Mm)).bind (fun e10 : Mm => (f_X7_pumpOut F e10 S Q).bind fun m14 => letv (up2 m14 S 0 ((m14 S 0) + (1 : Int32))) fun m15 => (f_X7_seeWhetherSinks F m15 S Q).bind fun m17 => some m17)) else (letv (up2 m S 0 ((m S 0) + (1 : Int32))) fun m18 => some m18)
set_option maxHeartbeats 4000000 in
set_option maxRecDepth 100000 in
theorem ct_X7_passMinute (F : Nat) {n : Nat} (hn : 113 ≤ n) (P D : Nat) (T : Option Nat) (m : Mm) (S : Nat) (hS : isSt S) (Q : Nat) (hQ : isPl Q) : Ct yX7_passMinute cX7_passMinute 3 none 3 69 [.ref S, .ref Q] n n m (RF P D T) (rV (RF P D T) (f_X7_passMinute F m S Q)) := by
  refine Ct.ofV (own := RX7) (nm := "passMinute") [(0, .ref S), (1, .ref Q)] (by decide) (Nat.le_of_ble_eq_true rfl) rfl rfl rfl ?_
  unfold f_X7_passMinute
  refine J_aload_n 0 0 S dX7_passMinute_0 rfl rfl ?_
  refine J_getI S 7 1 dX7_passMinute_1 fl_7_83 (layc_St_0 hS) rfl (lt_St_0 hS hn) ?_
  refine J_if_eq 18 dX7_passMinute_4 (by decide) ?_ ?_
  · refine J_aload_n 0 0 S dX7_passMinute_18 rfl rfl ?_
    refine J_callVV S 7 0 [] dX7_passMinute_19 mv_X7_endOrders mv_X7_endOrdersv lk_7_131 (ct_X7_endOrders F hn P D T m S hS) rfl (layc_St_0 hS) (by decide) rfl (lt_St_0 hS hn) ⟨by decide, by decide⟩ (Nat.le_of_ble_eq_true rfl) (fun m2 => ?_)
    refine J_aload_n 0 0 S dX7_passMinute_22 rfl rfl ?_
    refine J_aload_n 1 1 Q dX7_passMinute_23 rfl rfl ?_
    refine J_callVV S 7 1 [.ref Q] dX7_passMinute_24 mv_X7_beginOrders mv_X7_beginOrdersv lk_7_134 (ct_X7_beginOrders F hn P D T m2 S hS Q hQ) rfl (layc_St_0 hS) (by decide) rfl (lt_St_0 hS hn) ⟨by decide, by decide⟩ (Nat.le_of_ble_eq_true rfl) (fun m4 => ?_)
    refine J_aload_n 0 0 S dX7_passMinute_27 rfl rfl ?_
    refine J_aload_n 1 1 Q dX7_passMinute_28 rfl rfl ?_
    refine J_callVV S 7 1 [.ref Q] dX7_passMinute_29 mv_X7_comeThroughHoles mv_X7_comeThroughHolesv lk_7_137 (ct_X7_comeThroughHoles F hn P D T m4 S hS Q hQ) rfl (layc_St_0 hS) (by decide) rfl (lt_St_0 hS hn) ⟨by decide, by decide⟩ (Nat.le_of_ble_eq_true rfl) (fun m6 => ?_)
    refine J_aload_n 0 0 S dX7_passMinute_32 rfl rfl ?_
    refine J_aload_n 1 1 Q dX7_passMinute_33 rfl rfl ?_
    refine J_callVV S 7 1 [.ref Q] dX7_passMinute_34 mv_X7_comeThroughValves mv_X7_comeThroughValvesv lk_7_140 (ct_X7_comeThroughValves F hn P D T m6 S hS Q hQ) rfl (layc_St_0 hS) (by decide) rfl (lt_St_0 hS hn) ⟨by decide, by decide⟩ (Nat.le_of_ble_eq_true rfl) (fun m8 => ?_)
    refine J_iconst 0 dX7_passMinute_37 (by decide) ?_
    refine J_istore_n 2 [(2, .int 0), (0, .ref S), (1, .ref Q)] dX7_passMinute_38 rfl (by decide) rfl ?_
    refine J_lv [1, 2, 0] rfl ?_
    refine J_loop (pc := 39) (fun t9 : Int32 × Mm => [(0, .ref S), (1, .ref Q), (2, .int t9.1)]) (fun t9 => t9.2) (fun _ => 59) (fun e10 => [(0, .ref S), (1, .ref Q)]) (fun _ => []) (fun e10 => e10) ?_ (fun t9 k1 hBt9 hXt9 => ?_) F ((0, m8))
    · refine fun e10 => ?_
      refine J_aload_n 0 0 S dX7_passMinute_59 rfl rfl ?_
      refine J_aload_n 1 1 Q dX7_passMinute_60 rfl rfl ?_
      refine J_callVV S 7 1 [.ref Q] dX7_passMinute_61 mv_X7_pumpOut mv_X7_pumpOutv lk_7_150 (ct_X7_pumpOut F hn P D T e10 S hS Q hQ) rfl (layc_St_0 hS) (by decide) rfl (lt_St_0 hS hn) ⟨by decide, by decide⟩ (Nat.le_of_ble_eq_true rfl) (fun m14 => ?_)
      refine J_aload_n 0 0 S dX7_passMinute_64 rfl rfl ?_
      refine J_dup dX7_passMinute_65 rfl ?_
      refine J_getI S 7 0 dX7_passMinute_66 fl_7_41 (layc_St_0 hS) rfl (lt_St_0 hS hn) ?_
      refine J_iconst 1 dX7_passMinute_69 (by decide) ?_
      refine J_iadd dX7_passMinute_70 ?_
      refine J_putI S 7 0 dX7_passMinute_71 fl_7_41 (layc_St_0 hS) rfl (lt_St_0 hS hn) rfl rfl rfl (fun m15 => ?_)
      refine J_aload_n 0 0 S dX7_passMinute_74 rfl rfl ?_
      refine J_aload_n 1 1 Q dX7_passMinute_75 rfl rfl ?_
      refine J_callVV S 7 1 [.ref Q] dX7_passMinute_76 mv_X7_seeWhetherSinks mv_X7_seeWhetherSinksv lk_7_71 (ct_X7_seeWhetherSinks F hn P D T m15 S hS Q hQ) rfl (layc_St_0 hS) (by decide) rfl (lt_St_0 hS hn) ⟨by decide, by decide⟩ (Nat.le_of_ble_eq_true rfl) (fun m17 => ?_)
      exact J_vretV dX7_passMinute_79 rfl rfl
    · unfold b_X7_passMinute_39
      refine J_iload_n 2 2 t9.1 dX7_passMinute_39 rfl rfl ?_
      refine J_aload_n 1 1 Q dX7_passMinute_40 rfl rfl ?_
      refine J_getI Q 1 1 dX7_passMinute_41 fl_7_143 (layc_Pl_0 hQ) rfl (lt_Pl_0 hQ hn) ?_
      refine J_icmp_ge 59 dX7_passMinute_44 (by decide) ?_ ?_
      · exact J_lv [0, 1] rfl (hXt9 t9.2)
      · refine J_aload_n 0 0 S dX7_passMinute_47 rfl rfl ?_
        refine J_aload_n 1 1 Q dX7_passMinute_48 rfl rfl ?_
        refine J_iload_n 2 2 t9.1 dX7_passMinute_49 rfl rfl ?_
        refine J_callVV S 7 2 [.ref Q, .int t9.1] dX7_passMinute_50 mv_X7_flowThroughDoor mv_X7_flowThroughDoorv lk_7_146 (ct_X7_flowThroughDoor F hn P D T t9.2 S hS Q hQ t9.1) rfl (layc_St_0 hS) (by decide) rfl (lt_St_0 hS hn) ⟨by decide, by decide⟩ (Nat.le_of_ble_eq_true rfl) (fun m12 => ?_)
        refine J_iinc 2 2 [(2, .int (t9.1 + 1)), (0, .ref S), (1, .ref Q)] t9.1 (t9.1 + 1) dX7_passMinute_53 rfl rfl (by decide) rfl ?_
        refine J_goto 39 dX7_passMinute_56 (by decide) ?_
        exact J_lv [1, 2, 0] rfl (hBt9 (t9.1 + 1, m12))
  · refine J_aload_n 0 0 S dX7_passMinute_7 rfl rfl ?_
    refine J_dup dX7_passMinute_8 rfl ?_
    refine J_getI S 7 0 dX7_passMinute_9 fl_7_41 (layc_St_0 hS) rfl (lt_St_0 hS hn) ?_
    refine J_iconst 1 dX7_passMinute_12 (by decide) ?_
    refine J_iadd dX7_passMinute_13 ?_
    refine J_putI S 7 0 dX7_passMinute_14 fl_7_41 (layc_St_0 hS) rfl (lt_St_0 hS hn) rfl rfl rfl (fun m18 => ?_)
    exact J_vretV dX7_passMinute_17 rfl rfl
def b_X7_minutesAfloat_32 (F : Nat) (S : Nat) (Q : Nat) (a2 : Int32) (t5 : Int32 × Mm) : Option ((Int32 × Mm) ⊕ (Mm)) :=
  if a2 ≤ t5.1 then (some (Sum.inr t5.2)) else (if (t5.2 S 1) = 0 then ((f_X7_passMinute F t5.2 S Q).bind fun m8 => letv (up2 m8 S 3 (imax (m8 S 3) (m8 (S + 13) 1))) fun m9 => some (Sum.inl (t5.1 + 1, m9))) else (some (Sum.inr t5.2)))
def f_X7_minutesAfloat (F : Nat) (m : Mm) (S : Nat) (Q : Nat) (a2 : Int32) : Option (Int32 × Mm) :=
  letv (m S 0) fun x1 => (f_X3_weigh F m (S + 13) Q (S + 1) 0).bind fun m3 => letv (up2 m3 S 3 (m3 (S + 13) 1)) fun m4 => (iter F (b_X7_minutesAfloat_32 F S Q a2) ((0, m4) : Int32 × Mm)).bind (fun e6 : Mm => if (e6 S 1) = 0 then (some ((-4), e6)) else (some (imax (0 : Int32) ((e6 S 2) - x1), e6)))
set_option maxHeartbeats 4000000 in
set_option maxRecDepth 100000 in
theorem ct_X7_minutesAfloat (F : Nat) {n : Nat} (hn : 113 ≤ n) (P D : Nat) (T : Option Nat) (m : Mm) (S : Nat) (hS : isSt S) (Q : Nat) (hQ : isPl Q) (a2 : Int32) : Ct yX7_minutesAfloat cX7_minutesAfloat 5 (some .int) 4 91 [.ref S, .ref Q, .int a2] n n m (RF P D T) (rI (RF P D T) (f_X7_minutesAfloat F m S Q a2)) := by
  refine Ct.ofI (own := RX7) (nm := "minutesAfloat") [(0, .ref S), (1, .ref Q), (2, .int a2)] (by decide) (Nat.le_of_ble_eq_true rfl) rfl rfl rfl ?_
  unfold f_X7_minutesAfloat
  refine J_aload_n 0 0 S dX7_minutesAfloat_0 rfl rfl ?_
  refine J_getI S 7 0 dX7_minutesAfloat_1 fl_7_41 (layc_St_0 hS) rfl (lt_St_0 hS hn) ?_
  refine J_let (fun x1 => ?_)
  refine J_istore_n 3 [(3, .int x1), (0, .ref S), (1, .ref Q), (2, .int a2)] dX7_minutesAfloat_4 rfl (by decide) rfl ?_
  refine J_aload_n 0 1 S dX7_minutesAfloat_5 rfl rfl ?_
  refine J_getR S 7 10 (S + 13) dX7_minutesAfloat_6 fl_7_37 (layc_St_0 hS) rfl (lt_St_0 hS hn) (rf_St_0_10 hS) ?_
  refine J_aload_n 1 2 Q dX7_minutesAfloat_9 rfl rfl ?_
  refine J_aload_n 0 1 S dX7_minutesAfloat_10 rfl rfl ?_
  refine J_getR S 7 4 (S + 1) dX7_minutesAfloat_11 fl_7_9 (layc_St_0 hS) rfl (lt_St_0 hS hn) (rf_St_0_4 hS) ?_
  refine J_iconst 0 dX7_minutesAfloat_14 (by decide) ?_
  refine J_callVV (S + 13) 3 3 [.ref Q, .ref (S + 1), .int 0] dX7_minutesAfloat_15 mv_X3_weigh mv_X3_weighv lk_7_89 (ct_X3_weigh F hn P D T m (S + 13) (sc_St hS) Q hQ (S + 1) (wt_St hS) 0) rfl (layc_St_13 hS) (by decide) rfl (lt_St_13 hS hn) ⟨by decide, by decide⟩ (Nat.le_of_ble_eq_true rfl) (fun m3 => ?_)
  refine J_aload_n 0 1 S dX7_minutesAfloat_18 rfl rfl ?_
  refine J_aload_n 0 1 S dX7_minutesAfloat_19 rfl rfl ?_
  refine J_getR S 7 10 (S + 13) dX7_minutesAfloat_20 fl_7_37 (layc_St_0 hS) rfl (lt_St_0 hS hn) (rf_St_0_10 hS) ?_
  refine J_getI (S + 13) 3 1 dX7_minutesAfloat_23 fl_7_117 (layc_St_13 hS) rfl (lt_St_13 hS hn) ?_
  refine J_putI S 7 3 dX7_minutesAfloat_26 fl_7_120 (layc_St_0 hS) rfl (lt_St_0 hS hn) rfl rfl rfl (fun m4 => ?_)
  refine J_iconst 0 dX7_minutesAfloat_29 (by decide) ?_
  refine J_istore 4 [(4, .int 0), (3, .int x1), (0, .ref S), (1, .ref Q), (2, .int a2)] dX7_minutesAfloat_30 (by decide) rfl ?_
  refine J_lv [2, 3, 4, 1, 0] rfl ?_
  refine J_loop (pc := 32) (fun t5 : Int32 × Mm => [(0, .ref S), (1, .ref Q), (2, .int a2), (3, .int x1), (4, .int t5.1)]) (fun t5 => t5.2) (fun _ => 74) (fun e6 => [(0, .ref S), (3, .int x1)]) (fun _ => []) (fun e6 => e6) ?_ (fun t5 k1 hBt5 hXt5 => ?_) F ((0, m4))
  · refine fun e6 => ?_
    refine J_aload_n 0 0 S dX7_minutesAfloat_74 rfl rfl ?_
    refine J_getI S 7 1 dX7_minutesAfloat_75 fl_7_83 (layc_St_0 hS) rfl (lt_St_0 hS hn) ?_
    refine J_if_ne 86 dX7_minutesAfloat_78 (by decide) ?_ ?_
    · refine J_iconst 0 dX7_minutesAfloat_86 (by decide) ?_
      refine J_aload_n 0 0 S dX7_minutesAfloat_87 rfl rfl ?_
      refine J_getI S 7 2 dX7_minutesAfloat_88 fl_7_86 (layc_St_0 hS) rfl (lt_St_0 hS hn) ?_
      refine J_iload_n 3 1 x1 dX7_minutesAfloat_91 rfl rfl ?_
      refine J_isub dX7_minutesAfloat_92 ?_
      refine J_mmax dX7_minutesAfloat_93 lk_7_126 (by decide) (Nat.le_of_ble_eq_true rfl) ?_
      exact J_iretI dX7_minutesAfloat_96 rfl rfl
    · refine J_bipush (-4) dX7_minutesAfloat_81 (by decide) ?_
      refine J_goto 96 dX7_minutesAfloat_83 (by decide) ?_
      exact J_iretI dX7_minutesAfloat_96 rfl rfl
  · unfold b_X7_minutesAfloat_32
    refine J_iload 4 4 t5.1 dX7_minutesAfloat_32 rfl ?_
    refine J_iload_n 2 2 a2 dX7_minutesAfloat_34 rfl rfl ?_
    refine J_icmp_ge 74 dX7_minutesAfloat_35 (by decide) ?_ ?_
    · exact J_lv [0, 3] rfl (hXt5 t5.2)
    · refine J_aload_n 0 0 S dX7_minutesAfloat_38 rfl rfl ?_
      refine J_getI S 7 1 dX7_minutesAfloat_39 fl_7_83 (layc_St_0 hS) rfl (lt_St_0 hS hn) ?_
      refine J_if_ne 74 dX7_minutesAfloat_42 (by decide) ?_ ?_
      · exact J_lv [0, 3] rfl (hXt5 t5.2)
      · refine J_aload_n 0 0 S dX7_minutesAfloat_45 rfl rfl ?_
        refine J_aload_n 1 1 Q dX7_minutesAfloat_46 rfl rfl ?_
        refine J_callVV S 7 1 [.ref Q] dX7_minutesAfloat_47 mv_X7_passMinute mv_X7_passMinutev lk_7_123 (ct_X7_passMinute F hn P D T t5.2 S hS Q hQ) rfl (layc_St_0 hS) (by decide) rfl (lt_St_0 hS hn) ⟨by decide, by decide⟩ (Nat.le_of_ble_eq_true rfl) (fun m8 => ?_)
        refine J_aload_n 0 0 S dX7_minutesAfloat_50 rfl rfl ?_
        refine J_aload_n 0 0 S dX7_minutesAfloat_51 rfl rfl ?_
        refine J_getI S 7 3 dX7_minutesAfloat_52 fl_7_120 (layc_St_0 hS) rfl (lt_St_0 hS hn) ?_
        refine J_aload_n 0 0 S dX7_minutesAfloat_55 rfl rfl ?_
        refine J_getR S 7 10 (S + 13) dX7_minutesAfloat_56 fl_7_37 (layc_St_0 hS) rfl (lt_St_0 hS hn) (rf_St_0_10 hS) ?_
        refine J_getI (S + 13) 3 1 dX7_minutesAfloat_59 fl_7_117 (layc_St_13 hS) rfl (lt_St_13 hS hn) ?_
        refine J_mmax dX7_minutesAfloat_62 lk_7_126 (by decide) (Nat.le_of_ble_eq_true rfl) ?_
        refine J_putI S 7 3 dX7_minutesAfloat_65 fl_7_120 (layc_St_0 hS) rfl (lt_St_0 hS hn) rfl rfl rfl (fun m9 => ?_)
        refine J_iinc 4 4 [(4, .int (t5.1 + 1)), (0, .ref S), (1, .ref Q), (2, .int a2), (3, .int x1)] t5.1 (t5.1 + 1) dX7_minutesAfloat_68 rfl rfl (by decide) rfl ?_
        refine J_goto 32 dX7_minutesAfloat_71 (by decide) ?_
        exact J_lv [1, 2, 3, 4, 0] rfl (hBt5 (t5.1 + 1, m9))
def f_X7_waterInAll (F : Nat) (m : Mm) (S : Nat) (Q : Nat) : Option (Int32 × Mm) :=
  (f_X3_weigh F m (S + 13) Q (S + 1) 0).bind fun m2 => some (m2 (S + 13) 0, m2)
set_option maxHeartbeats 4000000 in
set_option maxRecDepth 100000 in
theorem ct_X7_waterInAll (F : Nat) {n : Nat} (hn : 113 ≤ n) (P D : Nat) (T : Option Nat) (m : Mm) (S : Nat) (hS : isSt S) (Q : Nat) (hQ : isPl Q) : Ct yX7_waterInAll cX7_waterInAll 2 (some .int) 2 48 [.ref S, .ref Q] n n m (RF P D T) (rI (RF P D T) (f_X7_waterInAll F m S Q)) := by
  refine Ct.ofI (own := RX7) (nm := "waterInAll") [(0, .ref S), (1, .ref Q)] (by decide) (Nat.le_of_ble_eq_true rfl) rfl rfl rfl ?_
  unfold f_X7_waterInAll
  refine J_aload_n 0 0 S dX7_waterInAll_0 rfl rfl ?_
  refine J_getR S 7 10 (S + 13) dX7_waterInAll_1 fl_7_37 (layc_St_0 hS) rfl (lt_St_0 hS hn) (rf_St_0_10 hS) ?_
  refine J_aload_n 1 1 Q dX7_waterInAll_4 rfl rfl ?_
  refine J_aload_n 0 0 S dX7_waterInAll_5 rfl rfl ?_
  refine J_getR S 7 4 (S + 1) dX7_waterInAll_6 fl_7_9 (layc_St_0 hS) rfl (lt_St_0 hS hn) (rf_St_0_4 hS) ?_
  refine J_iconst 0 dX7_waterInAll_9 (by decide) ?_
  refine J_callVV (S + 13) 3 3 [.ref Q, .ref (S + 1), .int 0] dX7_waterInAll_10 mv_X3_weigh mv_X3_weighv lk_7_89 (ct_X3_weigh F hn P D T m (S + 13) (sc_St hS) Q hQ (S + 1) (wt_St hS) 0) rfl (layc_St_13 hS) (by decide) rfl (lt_St_13 hS hn) ⟨by decide, by decide⟩ (Nat.le_of_ble_eq_true rfl) (fun m2 => ?_)
  refine J_aload_n 0 0 S dX7_waterInAll_13 rfl rfl ?_
  refine J_getR S 7 10 (S + 13) dX7_waterInAll_14 fl_7_37 (layc_St_0 hS) rfl (lt_St_0 hS hn) (rf_St_0_10 hS) ?_
  refine J_getI (S + 13) 3 0 dX7_waterInAll_17 fl_7_93 (layc_St_13 hS) rfl (lt_St_13 hS hn) ?_
  exact J_iretI dX7_waterInAll_20 rfl rfl
def b_X4_findBest_48 (a4 : Int32) (m5 : Mm) (t6 : Int32 × Int32) : Option ((Int32 × Int32) ⊕ (Int32)) :=
  if a4 ≤ t6.2 then (some (Sum.inr t6.1)) else (letv (t6.1 * (m5 34 6)) fun x8 => some (Sum.inl (x8, t6.2 + 1)))
def b_X4_findBest_73 (F : Nat) (Q : Nat) (S : Nat) (S2 : Nat) (a4 : Int32) (a5 : Int32) (e7 : Int32) (t9 : Int32 × Mm) : Option ((Int32 × Mm) ⊕ (Mm)) :=
  if e7 ≤ t9.1 then (some (Sum.inr t9.2)) else (bind2 (f_X4_fillRow F t9.2 t9.1 a4) fun x11 m12 => (if x11 = 0 then (some m12) else ((f_X7_copyWithoutOrders m12 S2 S).bind fun m15 => (f_X4_giveRow F m15 Q S2 a4).bind fun m17 => bind2 (f_X7_minutesAfloat F m17 S2 Q a5) fun x18 m19 => bind2 (f_X7_waterInAll F m19 S2 Q) fun x20 m21 => (f_X4_keepIfBetter m21 x18 x20).bind fun m23 => some m23) : Option (Mm)).bind fun y13 => some (Sum.inl (t9.1 + 1, y13)))
def f_X4_findBest (F : Nat) (m : Mm) (Q : Nat) (S : Nat) (S2 : Nat) (a4 : Int32) (a5 : Int32) : Option (Int32 × Mm) :=
  (f_X4_listChoices F m Q S).bind fun m2 => if a4 ≤ (m2 34 6) then (letv (fun y3 : Unit => letv (up2 m2 34 9 0) fun m5 => (iter F (b_X4_findBest_48 a4 m5) ((1, 0) : Int32 × Int32)).bind (fun e7 : Int32 => (iter F (b_X4_findBest_73 F Q S S2 a4 a5 e7) ((0, m5) : Int32 × Mm)).bind (fun e10 : Mm => letv (up2 e10 34 7 a4) fun m24 => letv (up2 m24 34 8 a5) fun m25 => some (1, m25)))) fun j4 => if a4 = (m2 34 7) then (if a5 = (m2 34 8) then (some (1, m2)) else (j4 ())) else (j4 ())) else (some (0, m2))
set_option maxHeartbeats 4000000 in
set_option maxRecDepth 100000 in
theorem ct_X4_findBest (F : Nat) {n : Nat} (hn : 113 ≤ n) (P D : Nat) (T : Option Nat) (m : Mm) (Q : Nat) (hQ : isPl Q) (S : Nat) (hS : isSt S) (S2 : Nat) (hS2 : isSt S2) (a4 : Int32) (a5 : Int32) : Ct yX4_findBest cX4_findBest 9 (some .boolean) 5 115 [.ref 34, .ref Q, .ref S, .ref S2, .int a4, .int a5] n n m (RF P D T) (rI (RF P D T) (f_X4_findBest F m Q S S2 a4 a5)) := by
  refine Ct.ofI (own := RX4) (nm := "findBest") [(0, .ref 34), (1, .ref Q), (2, .ref S), (3, .ref S2), (4, .int a4), (5, .int a5)] (by decide) (Nat.le_of_ble_eq_true rfl) rfl rfl rfl ?_
  unfold f_X4_findBest
  refine J_aload_n 0 0 34 dX4_findBest_0 rfl rfl ?_
  refine J_aload_n 1 1 Q dX4_findBest_1 rfl rfl ?_
  refine J_aload_n 2 2 S dX4_findBest_2 rfl rfl ?_
  refine J_callVV 34 4 2 [.ref Q, .ref S] dX4_findBest_3 mv_X4_listChoices mv_X4_listChoicesv lk_4_28 (ct_X4_listChoices F hn P D T m Q hQ S hS) rfl rfl (by decide) rfl (Nat.lt_of_lt_of_le (Nat.le_of_ble_eq_true rfl) hn) ⟨by decide, by decide⟩ (Nat.le_of_ble_eq_true rfl) (fun m2 => ?_)
  refine J_aload_n 0 0 34 dX4_findBest_6 rfl rfl ?_
  refine J_getI 34 4 6 dX4_findBest_7 fl_4_32 rfl rfl (Nat.lt_of_lt_of_le (Nat.le_of_ble_eq_true rfl) hn) ?_
  refine J_iload 4 4 a4 dX4_findBest_10 rfl ?_
  refine J_icmp_ge 17 dX4_findBest_12 (by decide) ?_ ?_
  · refine J_iload 4 4 a4 dX4_findBest_17 rfl ?_
    refine J_aload_n 0 0 34 dX4_findBest_19 rfl rfl ?_
    refine J_getI 34 4 7 dX4_findBest_20 fl_4_24 rfl rfl (Nat.lt_of_lt_of_le (Nat.le_of_ble_eq_true rfl) hn) ?_
    refine J_letJ 37 (fun y3 : Unit => [(0, .ref 34), (1, .ref Q), (2, .ref S), (3, .ref S2), (4, .int a4), (5, .int a5)]) (fun y3 => []) (fun y3 => m2) (fun y3 => ?_) (fun j4 hEj4 => ?_)
    · refine J_aload_n 0 0 34 dX4_findBest_37 rfl rfl ?_
      refine J_iconst 0 dX4_findBest_38 (by decide) ?_
      refine J_putI 34 4 9 dX4_findBest_39 fl_4_38 rfl rfl (Nat.lt_of_lt_of_le (Nat.le_of_ble_eq_true rfl) hn) rfl rfl rfl (fun m5 => ?_)
      refine J_iconst 1 dX4_findBest_42 (by decide) ?_
      refine J_istore 6 [(6, .int 1), (0, .ref 34), (1, .ref Q), (2, .ref S), (3, .ref S2), (4, .int a4), (5, .int a5)] dX4_findBest_43 (by decide) rfl ?_
      refine J_iconst 0 dX4_findBest_45 (by decide) ?_
      refine J_istore 7 [(7, .int 0), (6, .int 1), (0, .ref 34), (1, .ref Q), (2, .ref S), (3, .ref S2), (4, .int a4), (5, .int a5)] dX4_findBest_46 (by decide) rfl ?_
      refine J_lv [2, 3, 4, 5, 6, 7, 1, 0] rfl ?_
      refine J_loop (pc := 48) (fun t6 : Int32 × Int32 => [(0, .ref 34), (1, .ref Q), (2, .ref S), (3, .ref S2), (4, .int a4), (5, .int a5), (6, .int t6.1), (7, .int t6.2)]) (fun t6 => m5) (fun _ => 70) (fun e7 => [(0, .ref 34), (1, .ref Q), (2, .ref S), (3, .ref S2), (4, .int a4), (5, .int a5), (6, .int e7)]) (fun _ => []) (fun e7 => m5) ?_ (fun t6 k1 hBt6 hXt6 => ?_) F ((1, 0))
      · refine fun e7 => ?_
        refine J_iconst 0 dX4_findBest_70 (by decide) ?_
        refine J_istore 7 [(7, .int 0), (0, .ref 34), (1, .ref Q), (2, .ref S), (3, .ref S2), (4, .int a4), (5, .int a5), (6, .int e7)] dX4_findBest_71 (by decide) rfl ?_
        refine J_lv [1, 2, 3, 4, 5, 6, 7, 0] rfl ?_
        refine J_loop (pc := 73) (fun t9 : Int32 × Mm => [(0, .ref 34), (1, .ref Q), (2, .ref S), (3, .ref S2), (4, .int a4), (5, .int a5), (6, .int e7), (7, .int t9.1)]) (fun t9 => t9.2) (fun _ => 130) (fun e10 => [(0, .ref 34), (4, .int a4), (5, .int a5)]) (fun _ => []) (fun e10 => e10) ?_ (fun t9 k1 hBt9 hXt9 => ?_) F ((0, m5))
        · refine fun e10 => ?_
          refine J_aload_n 0 0 34 dX4_findBest_130 rfl rfl ?_
          refine J_iload 4 1 a4 dX4_findBest_131 rfl ?_
          refine J_putI 34 4 7 dX4_findBest_133 fl_4_24 rfl rfl (Nat.lt_of_lt_of_le (Nat.le_of_ble_eq_true rfl) hn) rfl rfl rfl (fun m24 => ?_)
          refine J_aload_n 0 0 34 dX4_findBest_136 rfl rfl ?_
          refine J_iload 5 2 a5 dX4_findBest_137 rfl ?_
          refine J_putI 34 4 8 dX4_findBest_139 fl_4_35 rfl rfl (Nat.lt_of_lt_of_le (Nat.le_of_ble_eq_true rfl) hn) rfl rfl rfl (fun m25 => ?_)
          refine J_iconst 1 dX4_findBest_142 (by decide) ?_
          exact J_zretI dX4_findBest_143 rfl rfl rfl
        · unfold b_X4_findBest_73
          refine J_iload 7 7 t9.1 dX4_findBest_73 rfl ?_
          refine J_iload 6 6 e7 dX4_findBest_75 rfl ?_
          refine J_icmp_ge 130 dX4_findBest_77 (by decide) ?_ ?_
          · exact J_lv [0, 4, 5] rfl (hXt9 t9.2)
          · refine J_aload_n 0 0 34 dX4_findBest_80 rfl rfl ?_
            refine J_iload 7 7 t9.1 dX4_findBest_81 rfl ?_
            refine J_iload 4 4 a4 dX4_findBest_83 rfl ?_
            refine J_callVI 34 4 2 [.int t9.1, .int a4] dX4_findBest_85 mv_X4_fillRow mv_X4_fillRowv lk_4_42 (ct_X4_fillRow F hn P D T t9.2 t9.1 a4) rfl rfl (by decide) rfl (Nat.lt_of_lt_of_le (Nat.le_of_ble_eq_true rfl) hn) ⟨by decide, by decide⟩ (Nat.le_of_ble_eq_true rfl) (fun x11 m12 => ?_)
            refine J_seqJ 124 (fun y13 : Mm => [(0, .ref 34), (1, .ref Q), (2, .ref S), (3, .ref S2), (4, .int a4), (5, .int a5), (6, .int e7), (7, .int t9.1)]) (fun y13 => []) (fun y13 => y13) (fun y13 => ?_) (fun k1 hEy13 => ?_)
            · refine J_iinc 7 7 [(7, .int (t9.1 + 1)), (0, .ref 34), (1, .ref Q), (2, .ref S), (3, .ref S2), (4, .int a4), (5, .int a5), (6, .int e7)] t9.1 (t9.1 + 1) dX4_findBest_124 rfl rfl (by decide) rfl ?_
              refine J_goto 73 dX4_findBest_127 (by decide) ?_
              exact J_lv [1, 2, 3, 4, 5, 6, 7, 0] rfl (hBt9 (t9.1 + 1, y13))
            · refine J_if_eq 124 dX4_findBest_88 (by decide) ?_ ?_
              · exact J_lv [0, 1, 2, 3, 4, 5, 6, 7] rfl (hEy13 m12)
              · refine J_aload_n 3 3 S2 dX4_findBest_91 rfl rfl ?_
                refine J_aload_n 2 2 S dX4_findBest_92 rfl rfl ?_
                refine J_callVV S2 7 1 [.ref S] dX4_findBest_93 mv_X7_copyWithoutOrders mv_X7_copyWithoutOrdersv lk_4_46 (ct_X7_copyWithoutOrders F hn P D T m12 S2 hS2 S hS) rfl (layc_St_0 hS2) (by decide) rfl (lt_St_0 hS2 hn) ⟨by decide, by decide⟩ (Nat.le_of_ble_eq_true rfl) (fun m15 => ?_)
                refine J_aload_n 0 0 34 dX4_findBest_96 rfl rfl ?_
                refine J_aload_n 1 1 Q dX4_findBest_97 rfl rfl ?_
                refine J_aload_n 3 3 S2 dX4_findBest_98 rfl rfl ?_
                refine J_iload 4 4 a4 dX4_findBest_99 rfl ?_
                refine J_callVV 34 4 3 [.ref Q, .ref S2, .int a4] dX4_findBest_101 mv_X4_giveRow mv_X4_giveRowv lk_4_52 (ct_X4_giveRow F hn P D T m15 Q hQ S2 hS2 a4) rfl rfl (by decide) rfl (Nat.lt_of_lt_of_le (Nat.le_of_ble_eq_true rfl) hn) ⟨by decide, by decide⟩ (Nat.le_of_ble_eq_true rfl) (fun m17 => ?_)
                refine J_aload_n 3 3 S2 dX4_findBest_104 rfl rfl ?_
                refine J_aload_n 1 1 Q dX4_findBest_105 rfl rfl ?_
                refine J_iload 5 5 a5 dX4_findBest_106 rfl ?_
                refine J_callVI S2 7 2 [.ref Q, .int a5] dX4_findBest_108 mv_X7_minutesAfloat mv_X7_minutesAfloatv lk_4_56 (ct_X7_minutesAfloat F hn P D T m17 S2 hS2 Q hQ a5) rfl (layc_St_0 hS2) (by decide) rfl (lt_St_0 hS2 hn) ⟨by decide, by decide⟩ (Nat.le_of_ble_eq_true rfl) (fun x18 m19 => ?_)
                refine J_istore 8 [(8, .int x18), (0, .ref 34), (1, .ref Q), (2, .ref S), (3, .ref S2), (4, .int a4), (5, .int a5), (6, .int e7), (7, .int t9.1)] dX4_findBest_111 (by decide) rfl ?_
                refine J_aload_n 0 1 34 dX4_findBest_113 rfl rfl ?_
                refine J_iload 8 0 x18 dX4_findBest_114 rfl ?_
                refine J_aload_n 3 4 S2 dX4_findBest_116 rfl rfl ?_
                refine J_aload_n 1 2 Q dX4_findBest_117 rfl rfl ?_
                refine J_callVI S2 7 1 [.ref Q] dX4_findBest_118 mv_X7_waterInAll mv_X7_waterInAllv lk_4_60 (ct_X7_waterInAll F hn P D T m19 S2 hS2 Q hQ) rfl (layc_St_0 hS2) (by decide) rfl (lt_St_0 hS2 hn) ⟨by decide, by decide⟩ (Nat.le_of_ble_eq_true rfl) (fun x20 m21 => ?_)
                refine J_callVV 34 4 2 [.int x18, .int x20] dX4_findBest_121 mv_X4_keepIfBetter mv_X4_keepIfBetterv lk_4_64 (ct_X4_keepIfBetter F hn P D T m21 x18 x20) rfl rfl (by decide) rfl (Nat.lt_of_lt_of_le (Nat.le_of_ble_eq_true rfl) hn) ⟨by decide, by decide⟩ (Nat.le_of_ble_eq_true rfl) (fun m23 => ?_)
                exact J_lv [1, 2, 3, 4, 5, 6, 7, 8] rfl (hEy13 m23)
      · unfold b_X4_findBest_48
        refine J_iload 7 7 t6.2 dX4_findBest_48 rfl ?_
        refine J_iload 4 4 a4 dX4_findBest_50 rfl ?_
        refine J_icmp_ge 70 dX4_findBest_52 (by decide) ?_ ?_
        · exact J_lv [0, 1, 2, 3, 4, 5, 6] rfl (hXt6 t6.1)
        · refine J_iload 6 6 t6.1 dX4_findBest_55 rfl ?_
          refine J_aload_n 0 0 34 dX4_findBest_57 rfl rfl ?_
          refine J_getI 34 4 6 dX4_findBest_58 fl_4_32 rfl rfl (Nat.lt_of_lt_of_le (Nat.le_of_ble_eq_true rfl) hn) ?_
          refine J_imul dX4_findBest_61 ?_
          refine J_let (fun x8 => ?_)
          refine J_istore 6 [(6, .int x8), (0, .ref 34), (1, .ref Q), (2, .ref S), (3, .ref S2), (4, .int a4), (5, .int a5), (7, .int t6.2)] dX4_findBest_62 (by decide) rfl ?_
          refine J_iinc 7 7 [(7, .int (t6.2 + 1)), (6, .int x8), (0, .ref 34), (1, .ref Q), (2, .ref S), (3, .ref S2), (4, .int a4), (5, .int a5)] t6.2 (t6.2 + 1) dX4_findBest_64 rfl rfl (by decide) rfl ?_
          refine J_goto 48 dX4_findBest_67 (by decide) ?_
          exact J_lv [2, 3, 4, 5, 6, 7, 1, 0] rfl (hBt6 (x8, t6.2 + 1))
    · refine J_icmp_ne 37 dX4_findBest_23 (by decide) ?_ ?_
      · exact J_lv [0, 1, 2, 3, 4, 5] rfl (hEj4 ())
      · refine J_iload 5 5 a5 dX4_findBest_26 rfl ?_
        refine J_aload_n 0 0 34 dX4_findBest_28 rfl rfl ?_
        refine J_getI 34 4 8 dX4_findBest_29 fl_4_35 rfl rfl (Nat.lt_of_lt_of_le (Nat.le_of_ble_eq_true rfl) hn) ?_
        refine J_icmp_ne 37 dX4_findBest_32 (by decide) ?_ ?_
        · exact J_lv [0, 1, 2, 3, 4, 5] rfl (hEj4 ())
        · refine J_iconst 1 dX4_findBest_35 (by decide) ?_
          exact J_zretI dX4_findBest_36 rfl rfl rfl
  · refine J_iconst 0 dX4_findBest_15 (by decide) ?_
    exact J_zretI dX4_findBest_16 rfl rfl rfl
def f_X4_forget (m : Mm) : Option (Mm) :=
  letv (up2 m 34 7 (-4)) fun m1 => some m1
set_option maxHeartbeats 4000000 in
set_option maxRecDepth 100000 in
theorem ct_X4_forget (F : Nat) {n : Nat} (hn : 113 ≤ n) (P D : Nat) (T : Option Nat) (m : Mm)  : Ct yX4_forget cX4_forget 1 none 0 0 [.ref 34] n n m (RF P D T) (rV (RF P D T) (f_X4_forget m)) := by
  refine Ct.ofV (own := RX4) (nm := "forget") [(0, .ref 34)] (by decide) (Nat.le_of_ble_eq_true rfl) rfl rfl rfl ?_
  unfold f_X4_forget
  refine J_aload_n 0 0 34 dX4_forget_0 rfl rfl ?_
  refine J_bipush (-4) dX4_forget_1 (by decide) ?_
  refine J_putI 34 4 7 dX4_forget_3 fl_4_24 rfl rfl (Nat.lt_of_lt_of_le (Nat.le_of_ble_eq_true rfl) hn) rfl rfl rfl (fun m1 => ?_)
  exact J_vretV dX4_forget_6 rfl rfl
def f_X5_renew (m : Mm) (H : Nat) (a1 : Int32) (a2 : Int32) : Option (Mm) :=
  letv (up2 m H 0 a1) fun m1 => letv (up2 m1 H 1 a2) fun m2 => (f_J7_fill m2 (H + 1) 40 0).bind fun m4 => some m4
set_option maxHeartbeats 4000000 in
set_option maxRecDepth 100000 in
theorem ct_X5_renew (F : Nat) {n : Nat} (hn : 113 ≤ n) (P D : Nat) (T : Option Nat) (m : Mm) (H : Nat) (hH : isSh H) (a1 : Int32) (a2 : Int32) : Ct yX5_renew cX5_renew 3 none 1 23 [.ref H, .int a1, .int a2] n n m (RF P D T) (rV (RF P D T) (f_X5_renew m H a1 a2)) := by
  refine Ct.ofV (own := RX5) (nm := "renew") [(0, .ref H), (1, .int a1), (2, .int a2)] (by decide) (Nat.le_of_ble_eq_true rfl) rfl rfl rfl ?_
  unfold f_X5_renew
  refine J_aload_n 0 0 H dX5_renew_0 rfl rfl ?_
  refine J_iload_n 1 1 a1 dX5_renew_1 rfl rfl ?_
  refine J_putI H 5 0 dX5_renew_2 fl_5_19 (layc_Sh_0 hH) rfl (lt_Sh_0 hH hn) rfl rfl rfl (fun m1 => ?_)
  refine J_aload_n 0 0 H dX5_renew_5 rfl rfl ?_
  refine J_iload_n 2 2 a2 dX5_renew_6 rfl rfl ?_
  refine J_putI H 5 1 dX5_renew_7 fl_5_9 (layc_Sh_0 hH) rfl (lt_Sh_0 hH hn) rfl rfl rfl (fun m2 => ?_)
  refine J_aload_n 0 0 H dX5_renew_10 rfl rfl ?_
  refine J_getR H 5 2 (H + 1) dX5_renew_11 fl_5_15 (layc_Sh_0 hH) rfl (lt_Sh_0 hH hn) (rf_Sh_0_2 hH) ?_
  refine J_iconst 0 dX5_renew_14 (by decide) ?_
  refine J_callSV 2 [.ref (H + 1), .int 0] dX5_renew_15 mv_J7_fill mv_J7_fills lk_5_22 (ct_J7_fill m2 (RF P D T) (H + 1) 40 (lay_Sh_1 hH) (lt_Sh_1 hH hn) 0) rfl ⟨by decide, by decide⟩ (Nat.le_of_ble_eq_true rfl) (fun m4 => ?_)
  exact J_vretV dX5_renew_18 rfl rfl
def f_X5_store (m : Mm) (H : Nat) (a1 : Int32) (a2 : Int32) : Option (Mm) :=
  (if (m H 0) = 0 then (some a2.toInt8.toInt32) else (if (m H 0) = (1 : Int32) then (some a2.toInt16.toInt32) else (some a2)) : Option (Int32)).bind fun y1 => (ast m (H + 1) 40 a1 y1).bind fun m2 => some m2
set_option maxHeartbeats 4000000 in
set_option maxRecDepth 100000 in
theorem ct_X5_store (F : Nat) {n : Nat} (hn : 113 ≤ n) (P D : Nat) (T : Option Nat) (m : Mm) (H : Nat) (hH : isSh H) (a1 : Int32) (a2 : Int32) : Ct yX5_store cX5_store 3 none 0 0 [.ref H, .int a1, .int a2] n n m (RF P D T) (rV (RF P D T) (f_X5_store m H a1 a2)) := by
  refine Ct.ofV (own := RX5) (nm := "store") [(0, .ref H), (1, .int a1), (2, .int a2)] (by decide) (Nat.le_of_ble_eq_true rfl) rfl rfl rfl ?_
  unfold f_X5_store
  refine J_aload_n 0 0 H dX5_store_0 rfl rfl ?_
  refine J_getR H 5 2 (H + 1) dX5_store_1 fl_5_15 (layc_Sh_0 hH) rfl (lt_Sh_0 hH hn) (rf_Sh_0_2 hH) ?_
  refine J_iload_n 1 1 a1 dX5_store_4 rfl rfl ?_
  refine J_aload_n 0 0 H dX5_store_5 rfl rfl ?_
  refine J_getI H 5 0 dX5_store_6 fl_5_19 (layc_Sh_0 hH) rfl (lt_Sh_0 hH hn) ?_
  refine J_seqJ 31 (fun y1 : Int32 => []) (fun y1 => [.int y1, .int a1, .ref (H + 1)]) (fun y1 => m) (fun y1 => ?_) (fun k1 hEy1 => ?_)
  · refine J_iast (H + 1) 40 dX5_store_31 (lay_Sh_1 hH) (lt_Sh_1 hH hn) (fun m2 => ?_)
    exact J_vretV dX5_store_32 rfl rfl
  · refine J_if_ne 17 dX5_store_9 (by decide) ?_ ?_
    · refine J_aload_n 0 0 H dX5_store_17 rfl rfl ?_
      refine J_getI H 5 0 dX5_store_18 fl_5_19 (layc_Sh_0 hH) rfl (lt_Sh_0 hH hn) ?_
      refine J_iconst 1 dX5_store_21 (by decide) ?_
      refine J_icmp_ne 30 dX5_store_22 (by decide) ?_ ?_
      · refine J_iload_n 2 2 a2 dX5_store_30 rfl rfl ?_
        exact J_lv [] rfl (hEy1 a2)
      · refine J_iload_n 2 2 a2 dX5_store_25 rfl rfl ?_
        refine J_i2s dX5_store_26 ?_
        refine J_goto 31 dX5_store_27 (by decide) ?_
        exact J_lv [] rfl (hEy1 a2.toInt16.toInt32)
    · refine J_iload_n 2 2 a2 dX5_store_12 rfl rfl ?_
      refine J_i2b dX5_store_13 ?_
      refine J_goto 31 dX5_store_14 (by decide) ?_
      exact J_lv [] rfl (hEy1 a2.toInt8.toInt32)
def f_X5_tearAt (m : Mm) (H : Nat) (a1 : Int32) (a2 : Int32) (a3 : Int32) : Option (Int32) :=
  if (m H 1) = ((-4) : Int32) then (some 1) else (if a1 = (m H 0) then (if a2 < 0 then (some 2) else (if a2 ≤ ((m H 1) - a3) then (some 0) else (some 2))) else (some 3))
set_option maxHeartbeats 4000000 in
set_option maxRecDepth 100000 in
theorem ct_X5_tearAt (F : Nat) {n : Nat} (hn : 113 ≤ n) (P D : Nat) (T : Option Nat) (m : Mm) (H : Nat) (hH : isSh H) (a1 : Int32) (a2 : Int32) (a3 : Int32) : Ct yX5_tearAt cX5_tearAt 4 (some .int) 0 0 [.ref H, .int a1, .int a2, .int a3] n n m (RF P D T) (rP m (RF P D T) (f_X5_tearAt m H a1 a2 a3)) := by
  refine Ct.ofP (own := RX5) (nm := "tearAt") [(0, .ref H), (1, .int a1), (2, .int a2), (3, .int a3)] (by decide) (Nat.le_of_ble_eq_true rfl) rfl rfl rfl ?_
  unfold f_X5_tearAt
  refine J_aload_n 0 0 H dX5_tearAt_0 rfl rfl ?_
  refine J_getI H 5 1 dX5_tearAt_1 fl_5_9 (layc_Sh_0 hH) rfl (lt_Sh_0 hH hn) ?_
  refine J_bipush (-4) dX5_tearAt_4 (by decide) ?_
  refine J_icmp_ne 11 dX5_tearAt_6 (by decide) ?_ ?_
  · refine J_iload_n 1 1 a1 dX5_tearAt_11 rfl rfl ?_
    refine J_aload_n 0 0 H dX5_tearAt_12 rfl rfl ?_
    refine J_getI H 5 0 dX5_tearAt_13 fl_5_19 (layc_Sh_0 hH) rfl (lt_Sh_0 hH hn) ?_
    refine J_icmp_eq 21 dX5_tearAt_16 (by decide) ?_ ?_
    · refine J_iload_n 2 2 a2 dX5_tearAt_21 rfl rfl ?_
      refine J_if_lt 35 dX5_tearAt_22 (by decide) ?_ ?_
      · refine J_iconst 2 dX5_tearAt_35 (by decide) ?_
        refine J_goto 40 dX5_tearAt_36 (by decide) ?_
        exact J_iretP dX5_tearAt_40 rfl rfl
      · refine J_iload_n 2 2 a2 dX5_tearAt_25 rfl rfl ?_
        refine J_aload_n 0 0 H dX5_tearAt_26 rfl rfl ?_
        refine J_getI H 5 1 dX5_tearAt_27 fl_5_9 (layc_Sh_0 hH) rfl (lt_Sh_0 hH hn) ?_
        refine J_iload_n 3 3 a3 dX5_tearAt_30 rfl rfl ?_
        refine J_isub dX5_tearAt_31 ?_
        refine J_icmp_le 39 dX5_tearAt_32 (by decide) ?_ ?_
        · refine J_iconst 0 dX5_tearAt_39 (by decide) ?_
          exact J_iretP dX5_tearAt_40 rfl rfl
        · refine J_iconst 2 dX5_tearAt_35 (by decide) ?_
          refine J_goto 40 dX5_tearAt_36 (by decide) ?_
          exact J_iretP dX5_tearAt_40 rfl rfl
    · refine J_iconst 3 dX5_tearAt_19 (by decide) ?_
      exact J_iretP dX5_tearAt_20 rfl rfl
  · refine J_iconst 1 dX5_tearAt_9 (by decide) ?_
    exact J_iretP dX5_tearAt_10 rfl rfl
def f_X6_append (m : Mm) (a1 : Int32) : Option (Int32 × Mm) :=
  if a1 < 0 then (some ((-1), m)) else (if a1 ≤ (99 : Int32) then (if (m 40 0) < (8 : Int32) then (letv (m 40 0) fun x1 => letv (up2 m 40 0 (x1 + (1 : Int32))) fun m2 => (ast m2 41 8 x1 a1).bind fun m3 => some (m3 40 0, m3)) else (some ((-3), m))) else (some ((-1), m)))
set_option maxHeartbeats 4000000 in
set_option maxRecDepth 100000 in
theorem ct_X6_append (F : Nat) {n : Nat} (hn : 113 ≤ n) (P D : Nat) (T : Option Nat) (m : Mm) (a1 : Int32) : Ct yX6_append cX6_append 2 (some .int) 0 0 [.ref 40, .int a1] n n m (RF P D T) (rI (RF P D T) (f_X6_append m a1)) := by
  refine Ct.ofI (own := RX6) (nm := "append") [(0, .ref 40), (1, .int a1)] (by decide) (Nat.le_of_ble_eq_true rfl) rfl rfl rfl ?_
  unfold f_X6_append
  refine J_iload_n 1 1 a1 dX6_append_0 rfl rfl ?_
  refine J_if_lt 10 dX6_append_1 (by decide) ?_ ?_
  · refine J_iconst (-1) dX6_append_10 (by decide) ?_
    exact J_iretI dX6_append_11 rfl rfl
  · refine J_iload_n 1 1 a1 dX6_append_4 rfl rfl ?_
    refine J_bipush 99 dX6_append_5 (by decide) ?_
    refine J_icmp_le 12 dX6_append_7 (by decide) ?_ ?_
    · refine J_aload_n 0 0 40 dX6_append_12 rfl rfl ?_
      refine J_getI 40 6 0 dX6_append_13 fl_6_15 rfl rfl (Nat.lt_of_lt_of_le (Nat.le_of_ble_eq_true rfl) hn) ?_
      refine J_bipush 8 dX6_append_16 (by decide) ?_
      refine J_icmp_lt 24 dX6_append_18 (by decide) ?_ ?_
      · refine J_aload_n 0 0 40 dX6_append_24 rfl rfl ?_
        refine J_getR 40 6 1 41 dX6_append_25 fl_6_9 rfl rfl (Nat.lt_of_lt_of_le (Nat.le_of_ble_eq_true rfl) hn) rfl ?_
        refine J_aload_n 0 0 40 dX6_append_28 rfl rfl ?_
        refine J_dup dX6_append_29 rfl ?_
        refine J_getI 40 6 0 dX6_append_30 fl_6_15 rfl rfl (Nat.lt_of_lt_of_le (Nat.le_of_ble_eq_true rfl) hn) ?_
        refine J_let (fun x1 => ?_)
        refine J_dup_x1 dX6_append_33 rfl rfl ?_
        refine J_iconst 1 dX6_append_34 (by decide) ?_
        refine J_iadd dX6_append_35 ?_
        refine J_putI 40 6 0 dX6_append_36 fl_6_15 rfl rfl (Nat.lt_of_lt_of_le (Nat.le_of_ble_eq_true rfl) hn) rfl rfl rfl (fun m2 => ?_)
        refine J_iload_n 1 1 a1 dX6_append_39 rfl rfl ?_
        refine J_iast 41 8 dX6_append_40 rfl (Nat.lt_of_lt_of_le (Nat.le_of_ble_eq_true rfl) hn) (fun m3 => ?_)
        refine J_aload_n 0 0 40 dX6_append_41 rfl rfl ?_
        refine J_getI 40 6 0 dX6_append_42 fl_6_15 rfl rfl (Nat.lt_of_lt_of_le (Nat.le_of_ble_eq_true rfl) hn) ?_
        exact J_iretI dX6_append_45 rfl rfl
      · refine J_bipush (-3) dX6_append_21 (by decide) ?_
        exact J_iretI dX6_append_23 rfl rfl
    · refine J_iconst (-1) dX6_append_10 (by decide) ?_
      exact J_iretI dX6_append_11 rfl rfl
def f_X6_clear (m : Mm) : Option (Int32 × Mm) :=
  letv (m 40 0) fun x1 => letv (up2 m 40 0 0) fun m2 => some (x1, m2)
set_option maxHeartbeats 4000000 in
set_option maxRecDepth 100000 in
theorem ct_X6_clear (F : Nat) {n : Nat} (hn : 113 ≤ n) (P D : Nat) (T : Option Nat) (m : Mm)  : Ct yX6_clear cX6_clear 2 (some .int) 0 0 [.ref 40] n n m (RF P D T) (rI (RF P D T) (f_X6_clear m)) := by
  refine Ct.ofI (own := RX6) (nm := "clear") [(0, .ref 40)] (by decide) (Nat.le_of_ble_eq_true rfl) rfl rfl rfl ?_
  unfold f_X6_clear
  refine J_aload_n 0 0 40 dX6_clear_0 rfl rfl ?_
  refine J_getI 40 6 0 dX6_clear_1 fl_6_15 rfl rfl (Nat.lt_of_lt_of_le (Nat.le_of_ble_eq_true rfl) hn) ?_
  refine J_let (fun x1 => ?_)
  refine J_istore_n 1 [(1, .int x1), (0, .ref 40)] dX6_clear_4 rfl (by decide) rfl ?_
  refine J_aload_n 0 1 40 dX6_clear_5 rfl rfl ?_
  refine J_iconst 0 dX6_clear_6 (by decide) ?_
  refine J_putI 40 6 0 dX6_clear_7 fl_6_15 rfl rfl (Nat.lt_of_lt_of_le (Nat.le_of_ble_eq_true rfl) hn) rfl rfl rfl (fun m2 => ?_)
  refine J_iload_n 1 0 x1 dX6_clear_10 rfl rfl ?_
  exact J_iretI dX6_clear_11 rfl rfl

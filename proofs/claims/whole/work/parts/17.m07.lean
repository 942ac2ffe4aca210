def imgOf (i : Int32) : Option Nat := aldR (RF 0 0 none) 32 2 i
theorem imgOf_eq (P D : Nat) (T : Option Nat) (i : Int32) : aldR (RF P D T) 32 2 i = imgOf i := by
  simp [imgOf, aldR, RF]
def shtOf (i : Int32) : Option Nat := aldR (RF 0 0 none) 42 4 i
theorem shtOf_eq (P D : Nat) (T : Option Nat) (i : Int32) : aldR (RF P D T) 42 4 i = shtOf i := by
  simp [shtOf, aldR, RF]
theorem fl_7_45 : FL RX7 45 1 7 := ⟨by decide, by decide, tb 285 (by decide +kernel) rfl⟩
theorem fl_7_56 : FL RX7 56 1 13 := ⟨by decide, by decide, tb 307 (by decide +kernel) rfl⟩
theorem fl_7_59 : FL RX7 59 1 18 := ⟨by decide, by decide, tb 325 (by decide +kernel) rfl⟩
theorem fl_8_123 : FL RX8 123 7 4 := ⟨by decide, by decide, tb 150 (by decide +kernel) rfl⟩
theorem fl_8_19 : FL RX8 19 8 1 := ⟨by decide, by decide, tb 422 (by decide +kernel) rfl⟩
theorem fl_8_211 : FL RX8 211 7 0 := ⟨by decide, by decide, tb 142 (by decide +kernel) rfl⟩
theorem fl_8_23 : FL RX8 23 8 2 := ⟨by decide, by decide, tb 423 (by decide +kernel) rfl⟩
theorem fl_8_26 : FL RX8 26 8 3 := ⟨by decide, by decide, tb 424 (by decide +kernel) rfl⟩
theorem fl_8_277 : FL RX8 277 4 0 := ⟨by decide, by decide, tb 196 (by decide +kernel) rfl⟩
theorem fl_8_280 : FL RX8 280 4 1 := ⟨by decide, by decide, tb 198 (by decide +kernel) rfl⟩
theorem fl_8_297 : FL RX8 297 1 0 := ⟨by decide, by decide, tb 256 (by decide +kernel) rfl⟩
theorem fl_8_30 : FL RX8 30 8 4 := ⟨by decide, by decide, tb 425 (by decide +kernel) rfl⟩
theorem fl_8_37 : FL RX8 37 8 5 := ⟨by decide, by decide, tb 426 (by decide +kernel) rfl⟩
theorem fl_8_44 : FL RX8 44 8 6 := ⟨by decide, by decide, tb 427 (by decide +kernel) rfl⟩
theorem fl_8_64 : FL RX8 64 8 9 := ⟨by decide, by decide, tb 430 (by decide +kernel) rfl⟩
theorem lk_6_19 : Cond.methodLink RX6 19 yX6_fits ∈ TBg := tb 942 (by decide +kernel) rfl
theorem lk_6_23 : Cond.methodLinkNest RX6 23 yX8_heightIn "WhichHold" ∈ NWl := tbN 946 (by decide +kernel) rfl
theorem lk_6_27 : Cond.methodLinkNest RX6 27 yX8_tonsIn "WhichHold" ∈ NWl := tbN 947 (by decide +kernel) rfl
theorem lk_7_62 : Cond.methodLink RX7 62 yJ7_fill_53178 ∈ TBg := tb 403 (by decide +kernel) rfl
theorem lk_7_75 : Cond.methodLink RX7 75 yX7_copyWithoutOrders ∈ TBg := tb 744 (by decide +kernel) rfl
theorem lk_7_79 : Cond.methodLink RX7 79 yX0_copyFrom ∈ TBg := tb 748 (by decide +kernel) rfl
theorem lk_8_103 : Cond.methodLink RX8 103 yX4_forget ∈ TBg := tb 603 (by decide +kernel) rfl
theorem lk_8_109 : Cond.methodLink RX8 109 yX8_isHold ∈ TBg := tb 615 (by decide +kernel) rfl
theorem lk_8_207 : Cond.methodLink RX8 207 yX3_weigh ∈ TBg := tb 734 (by decide +kernel) rfl
theorem lk_8_229 : Cond.methodLink RX8 229 yX7_copyFrom ∈ TBg := tb 740 (by decide +kernel) rfl
theorem lk_8_270 : Cond.methodLink RX8 270 yX4_findBest ∈ TBg := tb 808 (by decide +kernel) rfl
theorem lk_8_274 : Cond.methodLink RX8 274 yX4_bestCode ∈ TBg := tb 838 (by decide +kernel) rfl
theorem lk_8_300 : Cond.methodLink RX8 300 yX8_floatsWithFull ∈ TBg := tb 863 (by decide +kernel) rfl
theorem lk_8_303 : Cond.methodLink RX8 303 yX8_partnersOf ∈ TBg := tb 872 (by decide +kernel) rfl
theorem lk_8_373 : Cond.methodLink RX8 373 yX3_whySinks ∈ TBg := tb 867 (by decide +kernel) rfl
theorem mv_X0_copyFrom : MV yX0_copyFrom cX0_copyFrom 2 none 1 := ⟨tb 751 (by decide +kernel) rfl, tb 4 (by decide +kernel) rfl, by decide +kernel⟩
theorem mv_X0_copyFromv : Cond.instanceMethod yX0_copyFrom ∈ TBg ∧ Cond.selects yX0_copyFrom.cls yX0_copyFrom yX0_copyFrom ∈ TBg := ⟨tb 749 (by decide +kernel) rfl, tb 750 (by decide +kernel) rfl⟩
theorem mv_X4_bestCode : MV yX4_bestCode cX4_bestCode 2 (some .int) 1 := ⟨tb 841 (by decide +kernel) rfl, tb 6 (by decide +kernel) rfl, by decide +kernel⟩
theorem mv_X4_bestCodev : Cond.instanceMethod yX4_bestCode ∈ TBg ∧ Cond.selects yX4_bestCode.cls yX4_bestCode yX4_bestCode ∈ TBg := ⟨tb 839 (by decide +kernel) rfl, tb 840 (by decide +kernel) rfl⟩
theorem mv_X4_findBest : MV yX4_findBest cX4_findBest 9 (some .boolean) 5 := ⟨tb 811 (by decide +kernel) rfl, tb 6 (by decide +kernel) rfl, by decide +kernel⟩
theorem mv_X4_findBestv : Cond.instanceMethod yX4_findBest ∈ TBg ∧ Cond.selects yX4_findBest.cls yX4_findBest yX4_findBest ∈ TBg := ⟨tb 809 (by decide +kernel) rfl, tb 810 (by decide +kernel) rfl⟩
theorem mv_X4_forget : MV yX4_forget cX4_forget 1 none 0 := ⟨tb 606 (by decide +kernel) rfl, tb 6 (by decide +kernel) rfl, by decide +kernel⟩
theorem mv_X4_forgetv : Cond.instanceMethod yX4_forget ∈ TBg ∧ Cond.selects yX4_forget.cls yX4_forget yX4_forget ∈ TBg := ⟨tb 604 (by decide +kernel) rfl, tb 605 (by decide +kernel) rfl⟩
theorem mv_X6_fits : MV yX6_fits cX6_fits 5 (some .boolean) 2 := ⟨tb 945 (by decide +kernel) rfl, tb 7 (by decide +kernel) rfl, by decide +kernel⟩
theorem mv_X6_fitsv : Cond.instanceMethod yX6_fits ∈ TBg ∧ Cond.selects yX6_fits.cls yX6_fits yX6_fits ∈ TBg := ⟨tb 944 (by decide +kernel) rfl, tbP (k := 2) 41 (by decide +kernel) rfl⟩
theorem mv_X7_copyFrom : MV yX7_copyFrom cX7_copyFrom 2 none 1 := ⟨tb 743 (by decide +kernel) rfl, tb 3 (by decide +kernel) rfl, by decide +kernel⟩
theorem mv_X7_copyFromv : Cond.instanceMethod yX7_copyFrom ∈ TBg ∧ Cond.selects yX7_copyFrom.cls yX7_copyFrom yX7_copyFrom ∈ TBg := ⟨tb 741 (by decide +kernel) rfl, tb 742 (by decide +kernel) rfl⟩
theorem mv_X8_floatsWithFull : MV yX8_floatsWithFull cX8_floatsWithFull 2 (some .boolean) 1 := ⟨tb 866 (by decide +kernel) rfl, tb 1 (by decide +kernel) rfl, by decide +kernel⟩
theorem mv_X8_floatsWithFullv : Cond.instanceMethod yX8_floatsWithFull ∈ TBg ∧ Cond.selects yX8_floatsWithFull.cls yX8_floatsWithFull yX8_floatsWithFull ∈ TBg := ⟨tb 865 (by decide +kernel) rfl, tbP (k := 13) 34 (by decide +kernel) rfl⟩
theorem mv_X8_isHold : MV yX8_isHold cX8_isHold 2 (some .boolean) 1 := ⟨tb 618 (by decide +kernel) rfl, tb 1 (by decide +kernel) rfl, by decide +kernel⟩
theorem mv_X8_isHoldv : Cond.instanceMethod yX8_isHold ∈ TBg ∧ Cond.selects yX8_isHold.cls yX8_isHold yX8_isHold ∈ TBg := ⟨tb 617 (by decide +kernel) rfl, tbP (k := 13) 14 (by decide +kernel) rfl⟩
theorem mv_X8_partnersOf : MV yX8_partnersOf cX8_partnersOf 4 (some .int) 1 := ⟨tb 875 (by decide +kernel) rfl, tb 1 (by decide +kernel) rfl, by decide +kernel⟩
theorem mv_X8_partnersOfv : Cond.instanceMethod yX8_partnersOf ∈ TBg ∧ Cond.selects yX8_partnersOf.cls yX8_partnersOf yX8_partnersOf ∈ TBg := ⟨tb 874 (by decide +kernel) rfl, tbP (k := 13) 35 (by decide +kernel) rfl⟩
theorem dX6_fits_0 : decode cX6_fits 0 = .ok (.iconst 1, 1) := by decide +kernel
theorem dX6_fits_1 : decode cX6_fits 1 = .ok (.istore_n 3, 1) := by decide +kernel
theorem dX6_fits_2 : decode cX6_fits 2 = .ok (.iload_n 3, 1) := by decide +kernel
theorem dX6_fits_3 : decode cX6_fits 3 = .ok (.aload_n 0, 1) := by decide +kernel
theorem dX6_fits_4 : decode cX6_fits 4 = .ok (.getfield 15, 3) := by decide +kernel
theorem dX6_fits_7 : decode cX6_fits 7 = .ok (.if_icmp .ge 47, 3) := by decide +kernel
theorem dX6_fits_10 : decode cX6_fits 10 = .ok (.aload_n 0, 1) := by decide +kernel
theorem dX6_fits_11 : decode cX6_fits 11 = .ok (.getfield 9, 3) := by decide +kernel
theorem dX6_fits_14 : decode cX6_fits 14 = .ok (.iload_n 3, 1) := by decide +kernel
theorem dX6_fits_15 : decode cX6_fits 15 = .ok (.iconst 1, 1) := by decide +kernel
theorem dX6_fits_16 : decode cX6_fits 16 = .ok (.isub, 1) := by decide +kernel
theorem dX6_fits_17 : decode cX6_fits 17 = .ok (.iaload, 1) := by decide +kernel
theorem dX6_fits_18 : decode cX6_fits 18 = .ok (.istore 4, 2) := by decide +kernel
theorem dX6_fits_20 : decode cX6_fits 20 = .ok (.aload_n 0, 1) := by decide +kernel
theorem dX6_fits_21 : decode cX6_fits 21 = .ok (.getfield 9, 3) := by decide +kernel
theorem dX6_fits_24 : decode cX6_fits 24 = .ok (.iload_n 3, 1) := by decide +kernel
theorem dX6_fits_25 : decode cX6_fits 25 = .ok (.iaload, 1) := by decide +kernel
theorem dX6_fits_26 : decode cX6_fits 26 = .ok (.iload 4, 2) := by decide +kernel
theorem dX6_fits_28 : decode cX6_fits 28 = .ok (.iload_n 1, 1) := by decide +kernel
theorem dX6_fits_29 : decode cX6_fits 29 = .ok (.iload_n 2, 1) := by decide +kernel
theorem dX6_fits_30 : decode cX6_fits 30 = .ok (.iload 4, 2) := by decide +kernel
theorem dX6_fits_32 : decode cX6_fits 32 = .ok (.invokestatic 23, 3) := by decide +kernel
theorem dX6_fits_35 : decode cX6_fits 35 = .ok (.iload_n 2, 1) := by decide +kernel
theorem dX6_fits_36 : decode cX6_fits 36 = .ok (.iload 4, 2) := by decide +kernel
theorem dX6_fits_38 : decode cX6_fits 38 = .ok (.isub, 1) := by decide +kernel
theorem dX6_fits_39 : decode cX6_fits 39 = .ok (.invokestatic 27, 3) := by decide +kernel
theorem dX6_fits_42 : decode cX6_fits 42 = .ok (.iadd, 1) := by decide +kernel
theorem dX6_fits_43 : decode cX6_fits 43 = .ok (.if_icmp .eq 5, 3) := by decide +kernel
theorem dX6_fits_46 : decode cX6_fits 46 = .ok (.iconst 0, 1) := by decide +kernel
theorem dX6_fits_47 : decode cX6_fits 47 = .ok (.ireturn, 1) := by decide +kernel
theorem dX6_fits_48 : decode cX6_fits 48 = .ok (.iinc 3 1, 3) := by decide +kernel
theorem dX6_fits_51 : decode cX6_fits 51 = .ok (.goto (-49), 3) := by decide +kernel
theorem dX6_fits_54 : decode cX6_fits 54 = .ok (.iconst 1, 1) := by decide +kernel
theorem dX6_fits_55 : decode cX6_fits 55 = .ok (.ireturn, 1) := by decide +kernel
theorem dX6_ratesThatFit_0 : decode cX6_ratesThatFit 0 = .ok (.iconst 0, 1) := by decide +kernel
theorem dX6_ratesThatFit_1 : decode cX6_ratesThatFit 1 = .ok (.istore_n 2, 1) := by decide +kernel
theorem dX6_ratesThatFit_2 : decode cX6_ratesThatFit 2 = .ok (.iload_n 2, 1) := by decide +kernel
theorem dX6_ratesThatFit_3 : decode cX6_ratesThatFit 3 = .ok (.aload_n 0, 1) := by decide +kernel
theorem dX6_ratesThatFit_4 : decode cX6_ratesThatFit 4 = .ok (.getfield 15, 3) := by decide +kernel
theorem dX6_ratesThatFit_7 : decode cX6_ratesThatFit 7 = .ok (.if_icmp .ge 21, 3) := by decide +kernel
theorem dX6_ratesThatFit_10 : decode cX6_ratesThatFit 10 = .ok (.aload_n 0, 1) := by decide +kernel
theorem dX6_ratesThatFit_11 : decode cX6_ratesThatFit 11 = .ok (.getfield 9, 3) := by decide +kernel
theorem dX6_ratesThatFit_14 : decode cX6_ratesThatFit 14 = .ok (.iload_n 2, 1) := by decide +kernel
theorem dX6_ratesThatFit_15 : decode cX6_ratesThatFit 15 = .ok (.iaload, 1) := by decide +kernel
theorem dX6_ratesThatFit_16 : decode cX6_ratesThatFit 16 = .ok (.iload_n 1, 1) := by decide +kernel
theorem dX6_ratesThatFit_17 : decode cX6_ratesThatFit 17 = .ok (.if_icmp .le 5, 3) := by decide +kernel
theorem dX6_ratesThatFit_20 : decode cX6_ratesThatFit 20 = .ok (.iconst (-1), 1) := by decide +kernel
theorem dX6_ratesThatFit_21 : decode cX6_ratesThatFit 21 = .ok (.ireturn, 1) := by decide +kernel
theorem dX6_ratesThatFit_22 : decode cX6_ratesThatFit 22 = .ok (.iinc 2 1, 3) := by decide +kernel
theorem dX6_ratesThatFit_25 : decode cX6_ratesThatFit 25 = .ok (.goto (-23), 3) := by decide +kernel
theorem dX6_ratesThatFit_28 : decode cX6_ratesThatFit 28 = .ok (.iconst 0, 1) := by decide +kernel
theorem dX6_ratesThatFit_29 : decode cX6_ratesThatFit 29 = .ok (.istore_n 2, 1) := by decide +kernel
theorem dX6_ratesThatFit_30 : decode cX6_ratesThatFit 30 = .ok (.iconst 1, 1) := by decide +kernel
theorem dX6_ratesThatFit_31 : decode cX6_ratesThatFit 31 = .ok (.istore_n 3, 1) := by decide +kernel
theorem dX6_ratesThatFit_32 : decode cX6_ratesThatFit 32 = .ok (.iload_n 3, 1) := by decide +kernel
theorem dX6_ratesThatFit_33 : decode cX6_ratesThatFit 33 = .ok (.bipush 20, 2) := by decide +kernel
theorem dX6_ratesThatFit_35 : decode cX6_ratesThatFit 35 = .ok (.if_icmp .gt 24, 3) := by decide +kernel
theorem dX6_ratesThatFit_38 : decode cX6_ratesThatFit 38 = .ok (.aload_n 0, 1) := by decide +kernel
theorem dX6_ratesThatFit_39 : decode cX6_ratesThatFit 39 = .ok (.iload_n 3, 1) := by decide +kernel
theorem dX6_ratesThatFit_40 : decode cX6_ratesThatFit 40 = .ok (.iload_n 1, 1) := by decide +kernel
theorem dX6_ratesThatFit_41 : decode cX6_ratesThatFit 41 = .ok (.invokevirtual 19, 3) := by decide +kernel
theorem dX6_ratesThatFit_44 : decode cX6_ratesThatFit 44 = .ok (.ifCond .eq 9, 3) := by decide +kernel
theorem dX6_ratesThatFit_47 : decode cX6_ratesThatFit 47 = .ok (.iload_n 2, 1) := by decide +kernel
theorem dX6_ratesThatFit_48 : decode cX6_ratesThatFit 48 = .ok (.iconst 1, 1) := by decide +kernel
theorem dX6_ratesThatFit_49 : decode cX6_ratesThatFit 49 = .ok (.iload_n 3, 1) := by decide +kernel
theorem dX6_ratesThatFit_50 : decode cX6_ratesThatFit 50 = .ok (.ishl, 1) := by decide +kernel
theorem dX6_ratesThatFit_51 : decode cX6_ratesThatFit 51 = .ok (.ior, 1) := by decide +kernel
theorem dX6_ratesThatFit_52 : decode cX6_ratesThatFit 52 = .ok (.istore_n 2, 1) := by decide +kernel
theorem dX6_ratesThatFit_53 : decode cX6_ratesThatFit 53 = .ok (.iinc 3 1, 3) := by decide +kernel
theorem dX6_ratesThatFit_56 : decode cX6_ratesThatFit 56 = .ok (.goto (-24), 3) := by decide +kernel
theorem dX6_ratesThatFit_59 : decode cX6_ratesThatFit 59 = .ok (.iload_n 2, 1) := by decide +kernel
theorem dX6_ratesThatFit_60 : decode cX6_ratesThatFit 60 = .ok (.ireturn, 1) := by decide +kernel
theorem dX7_copyFrom_0 : decode cX7_copyFrom 0 = .ok (.aload_n 0, 1) := by decide +kernel
theorem dX7_copyFrom_1 : decode cX7_copyFrom 1 = .ok (.aload_n 1, 1) := by decide +kernel
theorem dX7_copyFrom_2 : decode cX7_copyFrom 2 = .ok (.invokevirtual 75, 3) := by decide +kernel
theorem dX7_copyFrom_5 : decode cX7_copyFrom 5 = .ok (.aload_n 0, 1) := by decide +kernel
theorem dX7_copyFrom_6 : decode cX7_copyFrom 6 = .ok (.getfield 30, 3) := by decide +kernel
theorem dX7_copyFrom_9 : decode cX7_copyFrom 9 = .ok (.aload_n 1, 1) := by decide +kernel
theorem dX7_copyFrom_10 : decode cX7_copyFrom 10 = .ok (.getfield 30, 3) := by decide +kernel
theorem dX7_copyFrom_13 : decode cX7_copyFrom 13 = .ok (.invokevirtual 79, 3) := by decide +kernel
theorem dX7_copyFrom_16 : decode cX7_copyFrom 16 = .ok (.return_, 1) := by decide +kernel
theorem dX7_startFrom_0 : decode cX7_startFrom 0 = .ok (.aload_n 0, 1) := by decide +kernel
theorem dX7_startFrom_1 : decode cX7_startFrom 1 = .ok (.iconst 0, 1) := by decide +kernel
theorem dX7_startFrom_2 : decode cX7_startFrom 2 = .ok (.putfield 41, 3) := by decide +kernel
theorem dX7_startFrom_5 : decode cX7_startFrom 5 = .ok (.aload_n 1, 1) := by decide +kernel
theorem dX7_startFrom_6 : decode cX7_startFrom 6 = .ok (.getfield 45, 3) := by decide +kernel
theorem dX7_startFrom_9 : decode cX7_startFrom 9 = .ok (.iconst 0, 1) := by decide +kernel
theorem dX7_startFrom_10 : decode cX7_startFrom 10 = .ok (.aload_n 0, 1) := by decide +kernel
theorem dX7_startFrom_11 : decode cX7_startFrom 11 = .ok (.getfield 9, 3) := by decide +kernel
theorem dX7_startFrom_14 : decode cX7_startFrom 14 = .ok (.iconst 0, 1) := by decide +kernel
theorem dX7_startFrom_15 : decode cX7_startFrom 15 = .ok (.bipush 8, 2) := by decide +kernel
theorem dX7_startFrom_17 : decode cX7_startFrom 17 = .ok (.invokestatic 50, 3) := by decide +kernel
theorem dX7_startFrom_20 : decode cX7_startFrom 20 = .ok (.aload_n 1, 1) := by decide +kernel
theorem dX7_startFrom_21 : decode cX7_startFrom 21 = .ok (.getfield 56, 3) := by decide +kernel
theorem dX7_startFrom_24 : decode cX7_startFrom 24 = .ok (.iconst 0, 1) := by decide +kernel
theorem dX7_startFrom_25 : decode cX7_startFrom 25 = .ok (.aload_n 0, 1) := by decide +kernel
theorem dX7_startFrom_26 : decode cX7_startFrom 26 = .ok (.getfield 18, 3) := by decide +kernel
theorem dX7_startFrom_29 : decode cX7_startFrom 29 = .ok (.iconst 0, 1) := by decide +kernel
theorem dX7_startFrom_30 : decode cX7_startFrom 30 = .ok (.bipush 10, 2) := by decide +kernel
theorem dX7_startFrom_32 : decode cX7_startFrom 32 = .ok (.invokestatic 50, 3) := by decide +kernel
theorem dX7_startFrom_35 : decode cX7_startFrom 35 = .ok (.aload_n 1, 1) := by decide +kernel
theorem dX7_startFrom_36 : decode cX7_startFrom 36 = .ok (.getfield 59, 3) := by decide +kernel
theorem dX7_startFrom_39 : decode cX7_startFrom 39 = .ok (.iconst 0, 1) := by decide +kernel
theorem dX7_startFrom_40 : decode cX7_startFrom 40 = .ok (.aload_n 0, 1) := by decide +kernel
theorem dX7_startFrom_41 : decode cX7_startFrom 41 = .ok (.getfield 24, 3) := by decide +kernel
theorem dX7_startFrom_44 : decode cX7_startFrom 44 = .ok (.iconst 0, 1) := by decide +kernel
theorem dX7_startFrom_45 : decode cX7_startFrom 45 = .ok (.iconst 3, 1) := by decide +kernel
theorem dX7_startFrom_46 : decode cX7_startFrom 46 = .ok (.invokestatic 50, 3) := by decide +kernel
theorem dX7_startFrom_49 : decode cX7_startFrom 49 = .ok (.aload_n 0, 1) := by decide +kernel
theorem dX7_startFrom_50 : decode cX7_startFrom 50 = .ok (.getfield 15, 3) := by decide +kernel
theorem dX7_startFrom_53 : decode cX7_startFrom 53 = .ok (.iconst 0, 1) := by decide +kernel
theorem dX7_startFrom_54 : decode cX7_startFrom 54 = .ok (.invokestatic 62, 3) := by decide +kernel
theorem dX7_startFrom_57 : decode cX7_startFrom 57 = .ok (.aload_n 0, 1) := by decide +kernel
theorem dX7_startFrom_58 : decode cX7_startFrom 58 = .ok (.getfield 21, 3) := by decide +kernel
theorem dX7_startFrom_61 : decode cX7_startFrom 61 = .ok (.iconst 0, 1) := by decide +kernel
theorem dX7_startFrom_62 : decode cX7_startFrom 62 = .ok (.invokestatic 62, 3) := by decide +kernel
theorem dX7_startFrom_65 : decode cX7_startFrom 65 = .ok (.aload_n 0, 1) := by decide +kernel
theorem dX7_startFrom_66 : decode cX7_startFrom 66 = .ok (.getfield 30, 3) := by decide +kernel
theorem dX7_startFrom_69 : decode cX7_startFrom 69 = .ok (.iconst 0, 1) := by decide +kernel
theorem dX7_startFrom_70 : decode cX7_startFrom 70 = .ok (.putfield 68, 3) := by decide +kernel
theorem dX7_startFrom_73 : decode cX7_startFrom 73 = .ok (.aload_n 0, 1) := by decide +kernel
theorem dX7_startFrom_74 : decode cX7_startFrom 74 = .ok (.aload_n 1, 1) := by decide +kernel
theorem dX7_startFrom_75 : decode cX7_startFrom 75 = .ok (.invokevirtual 71, 3) := by decide +kernel
theorem dX7_startFrom_78 : decode cX7_startFrom 78 = .ok (.return_, 1) := by decide +kernel
theorem dX8_back_0 : decode cX8_back 0 = .ok (.iload_n 1, 1) := by decide +kernel
theorem dX8_back_1 : decode cX8_back 1 = .ok (.ifCond .lt 8, 3) := by decide +kernel
theorem dX8_back_4 : decode cX8_back 4 = .ok (.iload_n 1, 1) := by decide +kernel
theorem dX8_back_5 : decode cX8_back 5 = .ok (.iconst 2, 1) := by decide +kernel
theorem dX8_back_6 : decode cX8_back 6 = .ok (.if_icmp .lt 5, 3) := by decide +kernel
theorem dX8_back_9 : decode cX8_back 9 = .ok (.iconst (-1), 1) := by decide +kernel
theorem dX8_back_10 : decode cX8_back 10 = .ok (.ireturn, 1) := by decide +kernel
theorem dX8_back_11 : decode cX8_back 11 = .ok (.aload_n 0, 1) := by decide +kernel
theorem dX8_back_12 : decode cX8_back 12 = .ok (.getfield 30, 3) := by decide +kernel
theorem dX8_back_15 : decode cX8_back 15 = .ok (.iload_n 1, 1) := by decide +kernel
theorem dX8_back_16 : decode cX8_back 16 = .ok (.baload, 1) := by decide +kernel
theorem dX8_back_17 : decode cX8_back 17 = .ok (.ifCond .ne 6, 3) := by decide +kernel
theorem dX8_back_20 : decode cX8_back 20 = .ok (.bipush (-2), 2) := by decide +kernel
theorem dX8_back_22 : decode cX8_back 22 = .ok (.ireturn, 1) := by decide +kernel
theorem dX8_back_23 : decode cX8_back 23 = .ok (.aload_n 0, 1) := by decide +kernel
theorem dX8_back_24 : decode cX8_back 24 = .ok (.getfield 19, 3) := by decide +kernel
theorem dX8_back_27 : decode cX8_back 27 = .ok (.aload_n 0, 1) := by decide +kernel
theorem dX8_back_28 : decode cX8_back 28 = .ok (.getfield 26, 3) := by decide +kernel
theorem dX8_back_31 : decode cX8_back 31 = .ok (.iload_n 1, 1) := by decide +kernel
theorem dX8_back_32 : decode cX8_back 32 = .ok (.aaload, 1) := by decide +kernel
theorem dX8_back_33 : decode cX8_back 33 = .ok (.invokevirtual 229, 3) := by decide +kernel
theorem dX8_back_36 : decode cX8_back 36 = .ok (.aload_n 0, 1) := by decide +kernel
theorem dX8_back_37 : decode cX8_back 37 = .ok (.getfield 37, 3) := by decide +kernel
theorem dX8_back_40 : decode cX8_back 40 = .ok (.invokevirtual 103, 3) := by decide +kernel
theorem dX8_back_43 : decode cX8_back 43 = .ok (.aload_n 0, 1) := by decide +kernel
theorem dX8_back_44 : decode cX8_back 44 = .ok (.getfield 19, 3) := by decide +kernel
theorem dX8_back_47 : decode cX8_back 47 = .ok (.getfield 211, 3) := by decide +kernel
theorem dX8_back_50 : decode cX8_back 50 = .ok (.ireturn, 1) := by decide +kernel
theorem dX8_isHold_0 : decode cX8_isHold 0 = .ok (.iload_n 1, 1) := by decide +kernel
theorem dX8_isHold_1 : decode cX8_isHold 1 = .ok (.ifCond .lt 18, 3) := by decide +kernel
theorem dX8_isHold_4 : decode cX8_isHold 4 = .ok (.iload_n 1, 1) := by decide +kernel
theorem dX8_isHold_5 : decode cX8_isHold 5 = .ok (.aload_n 0, 1) := by decide +kernel
theorem dX8_isHold_6 : decode cX8_isHold 6 = .ok (.getfield 64, 3) := by decide +kernel
theorem dX8_isHold_9 : decode cX8_isHold 9 = .ok (.getfield 297, 3) := by decide +kernel
theorem dX8_isHold_12 : decode cX8_isHold 12 = .ok (.if_icmp .ge 7, 3) := by decide +kernel
theorem dX8_isHold_15 : decode cX8_isHold 15 = .ok (.iconst 1, 1) := by decide +kernel
theorem dX8_isHold_16 : decode cX8_isHold 16 = .ok (.goto 4, 3) := by decide +kernel
theorem dX8_isHold_19 : decode cX8_isHold 19 = .ok (.iconst 0, 1) := by decide +kernel
theorem dX8_isHold_20 : decode cX8_isHold 20 = .ok (.ireturn, 1) := by decide +kernel
theorem dX8_floatsWithFull_0 : decode cX8_floatsWithFull 0 = .ok (.aload_n 0, 1) := by decide +kernel
theorem dX8_floatsWithFull_1 : decode cX8_floatsWithFull 1 = .ok (.getfield 44, 3) := by decide +kernel
theorem dX8_floatsWithFull_4 : decode cX8_floatsWithFull 4 = .ok (.aload_n 0, 1) := by decide +kernel
theorem dX8_floatsWithFull_5 : decode cX8_floatsWithFull 5 = .ok (.getfield 64, 3) := by decide +kernel
theorem dX8_floatsWithFull_8 : decode cX8_floatsWithFull 8 = .ok (.aload_n 0, 1) := by decide +kernel
theorem dX8_floatsWithFull_9 : decode cX8_floatsWithFull 9 = .ok (.getfield 19, 3) := by decide +kernel
theorem dX8_floatsWithFull_12 : decode cX8_floatsWithFull 12 = .ok (.getfield 123, 3) := by decide +kernel
theorem dX8_floatsWithFull_15 : decode cX8_floatsWithFull 15 = .ok (.iload_n 1, 1) := by decide +kernel
theorem dX8_floatsWithFull_16 : decode cX8_floatsWithFull 16 = .ok (.invokevirtual 207, 3) := by decide +kernel
theorem dX8_floatsWithFull_19 : decode cX8_floatsWithFull 19 = .ok (.aload_n 0, 1) := by decide +kernel
theorem dX8_floatsWithFull_20 : decode cX8_floatsWithFull 20 = .ok (.getfield 44, 3) := by decide +kernel
theorem dX8_floatsWithFull_23 : decode cX8_floatsWithFull 23 = .ok (.aload_n 0, 1) := by decide +kernel
theorem dX8_floatsWithFull_24 : decode cX8_floatsWithFull 24 = .ok (.getfield 64, 3) := by decide +kernel
theorem dX8_floatsWithFull_27 : decode cX8_floatsWithFull 27 = .ok (.invokevirtual 373, 3) := by decide +kernel
theorem dX8_floatsWithFull_30 : decode cX8_floatsWithFull 30 = .ok (.ifCond .ne 7, 3) := by decide +kernel
theorem dX8_floatsWithFull_33 : decode cX8_floatsWithFull 33 = .ok (.iconst 1, 1) := by decide +kernel
theorem dX8_floatsWithFull_34 : decode cX8_floatsWithFull 34 = .ok (.goto 4, 3) := by decide +kernel
theorem dX8_floatsWithFull_37 : decode cX8_floatsWithFull 37 = .ok (.iconst 0, 1) := by decide +kernel
theorem dX8_floatsWithFull_38 : decode cX8_floatsWithFull 38 = .ok (.ireturn, 1) := by decide +kernel
theorem dX8_partnersOf_0 : decode cX8_partnersOf 0 = .ok (.iconst 0, 1) := by decide +kernel
theorem dX8_partnersOf_1 : decode cX8_partnersOf 1 = .ok (.istore_n 2, 1) := by decide +kernel
theorem dX8_partnersOf_2 : decode cX8_partnersOf 2 = .ok (.iconst 0, 1) := by decide +kernel
theorem dX8_partnersOf_3 : decode cX8_partnersOf 3 = .ok (.istore_n 3, 1) := by decide +kernel
theorem dX8_partnersOf_4 : decode cX8_partnersOf 4 = .ok (.iload_n 3, 1) := by decide +kernel
theorem dX8_partnersOf_5 : decode cX8_partnersOf 5 = .ok (.aload_n 0, 1) := by decide +kernel
theorem dX8_partnersOf_6 : decode cX8_partnersOf 6 = .ok (.getfield 64, 3) := by decide +kernel
theorem dX8_partnersOf_9 : decode cX8_partnersOf 9 = .ok (.getfield 297, 3) := by decide +kernel
theorem dX8_partnersOf_12 : decode cX8_partnersOf 12 = .ok (.if_icmp .ge 34, 3) := by decide +kernel
theorem dX8_partnersOf_15 : decode cX8_partnersOf 15 = .ok (.iload_n 3, 1) := by decide +kernel
theorem dX8_partnersOf_16 : decode cX8_partnersOf 16 = .ok (.iload_n 1, 1) := by decide +kernel
theorem dX8_partnersOf_17 : decode cX8_partnersOf 17 = .ok (.if_icmp .eq 23, 3) := by decide +kernel
theorem dX8_partnersOf_20 : decode cX8_partnersOf 20 = .ok (.aload_n 0, 1) := by decide +kernel
theorem dX8_partnersOf_21 : decode cX8_partnersOf 21 = .ok (.iconst 1, 1) := by decide +kernel
theorem dX8_partnersOf_22 : decode cX8_partnersOf 22 = .ok (.iload_n 3, 1) := by decide +kernel
theorem dX8_partnersOf_23 : decode cX8_partnersOf 23 = .ok (.ishl, 1) := by decide +kernel
theorem dX8_partnersOf_24 : decode cX8_partnersOf 24 = .ok (.iconst 1, 1) := by decide +kernel
theorem dX8_partnersOf_25 : decode cX8_partnersOf 25 = .ok (.iload_n 1, 1) := by decide +kernel
theorem dX8_partnersOf_26 : decode cX8_partnersOf 26 = .ok (.ishl, 1) := by decide +kernel
theorem dX8_partnersOf_27 : decode cX8_partnersOf 27 = .ok (.ior, 1) := by decide +kernel
theorem dX8_partnersOf_28 : decode cX8_partnersOf 28 = .ok (.invokevirtual 300, 3) := by decide +kernel
theorem dX8_partnersOf_31 : decode cX8_partnersOf 31 = .ok (.ifCond .eq 9, 3) := by decide +kernel
theorem dX8_partnersOf_34 : decode cX8_partnersOf 34 = .ok (.iload_n 2, 1) := by decide +kernel
theorem dX8_partnersOf_35 : decode cX8_partnersOf 35 = .ok (.iconst 1, 1) := by decide +kernel
theorem dX8_partnersOf_36 : decode cX8_partnersOf 36 = .ok (.iload_n 3, 1) := by decide +kernel
theorem dX8_partnersOf_37 : decode cX8_partnersOf 37 = .ok (.ishl, 1) := by decide +kernel
theorem dX8_partnersOf_38 : decode cX8_partnersOf 38 = .ok (.ior, 1) := by decide +kernel
theorem dX8_partnersOf_39 : decode cX8_partnersOf 39 = .ok (.istore_n 2, 1) := by decide +kernel
theorem dX8_partnersOf_40 : decode cX8_partnersOf 40 = .ok (.iinc 3 1, 3) := by decide +kernel
theorem dX8_partnersOf_43 : decode cX8_partnersOf 43 = .ok (.goto (-39), 3) := by decide +kernel
theorem dX8_partnersOf_46 : decode cX8_partnersOf 46 = .ok (.iload_n 2, 1) := by decide +kernel
theorem dX8_partnersOf_47 : decode cX8_partnersOf 47 = .ok (.ireturn, 1) := by decide +kernel
theorem dX8_beside_0 : decode cX8_beside 0 = .ok (.aload_n 0, 1) := by decide +kernel
theorem dX8_beside_1 : decode cX8_beside 1 = .ok (.iload_n 1, 1) := by decide +kernel
theorem dX8_beside_2 : decode cX8_beside 2 = .ok (.invokevirtual 109, 3) := by decide +kernel
theorem dX8_beside_5 : decode cX8_beside 5 = .ok (.ifCond .eq 12, 3) := by decide +kernel
theorem dX8_beside_8 : decode cX8_beside 8 = .ok (.iload_n 2, 1) := by decide +kernel
theorem dX8_beside_9 : decode cX8_beside 9 = .ok (.ifCond .lt 8, 3) := by decide +kernel
theorem dX8_beside_12 : decode cX8_beside 12 = .ok (.iload_n 2, 1) := by decide +kernel
theorem dX8_beside_13 : decode cX8_beside 13 = .ok (.iconst 1, 1) := by decide +kernel
theorem dX8_beside_14 : decode cX8_beside 14 = .ok (.if_icmp .le 5, 3) := by decide +kernel
theorem dX8_beside_17 : decode cX8_beside 17 = .ok (.iconst (-1), 1) := by decide +kernel
theorem dX8_beside_18 : decode cX8_beside 18 = .ok (.ireturn, 1) := by decide +kernel
theorem dX8_beside_19 : decode cX8_beside 19 = .ok (.iload_n 2, 1) := by decide +kernel
theorem dX8_beside_20 : decode cX8_beside 20 = .ok (.ifCond .ne 9, 3) := by decide +kernel
theorem dX8_beside_23 : decode cX8_beside 23 = .ok (.aload_n 0, 1) := by decide +kernel
theorem dX8_beside_24 : decode cX8_beside 24 = .ok (.iload_n 1, 1) := by decide +kernel
theorem dX8_beside_25 : decode cX8_beside 25 = .ok (.invokevirtual 303, 3) := by decide +kernel
theorem dX8_beside_28 : decode cX8_beside 28 = .ok (.ireturn, 1) := by decide +kernel
theorem dX8_beside_29 : decode cX8_beside 29 = .ok (.iconst 1, 1) := by decide +kernel
theorem dX8_beside_30 : decode cX8_beside 30 = .ok (.aload_n 0, 1) := by decide +kernel
theorem dX8_beside_31 : decode cX8_beside 31 = .ok (.getfield 64, 3) := by decide +kernel
theorem dX8_beside_34 : decode cX8_beside 34 = .ok (.getfield 297, 3) := by decide +kernel
theorem dX8_beside_37 : decode cX8_beside 37 = .ok (.ishl, 1) := by decide +kernel
theorem dX8_beside_38 : decode cX8_beside 38 = .ok (.iconst 1, 1) := by decide +kernel
theorem dX8_beside_39 : decode cX8_beside 39 = .ok (.isub, 1) := by decide +kernel
theorem dX8_beside_40 : decode cX8_beside 40 = .ok (.istore_n 3, 1) := by decide +kernel
theorem dX8_beside_41 : decode cX8_beside 41 = .ok (.iconst 0, 1) := by decide +kernel
theorem dX8_beside_42 : decode cX8_beside 42 = .ok (.istore 4, 2) := by decide +kernel
theorem dX8_beside_44 : decode cX8_beside 44 = .ok (.iload 4, 2) := by decide +kernel
theorem dX8_beside_46 : decode cX8_beside 46 = .ok (.aload_n 0, 1) := by decide +kernel
theorem dX8_beside_47 : decode cX8_beside 47 = .ok (.getfield 64, 3) := by decide +kernel
theorem dX8_beside_50 : decode cX8_beside 50 = .ok (.getfield 297, 3) := by decide +kernel
theorem dX8_beside_53 : decode cX8_beside 53 = .ok (.if_icmp .ge 28, 3) := by decide +kernel
theorem dX8_beside_56 : decode cX8_beside 56 = .ok (.aload_n 0, 1) := by decide +kernel
theorem dX8_beside_57 : decode cX8_beside 57 = .ok (.iload 4, 2) := by decide +kernel
theorem dX8_beside_59 : decode cX8_beside 59 = .ok (.invokevirtual 303, 3) := by decide +kernel
theorem dX8_beside_62 : decode cX8_beside 62 = .ok (.iload_n 3, 1) := by decide +kernel
theorem dX8_beside_63 : decode cX8_beside 63 = .ok (.iconst 1, 1) := by decide +kernel
theorem dX8_beside_64 : decode cX8_beside 64 = .ok (.iload 4, 2) := by decide +kernel
theorem dX8_beside_66 : decode cX8_beside 66 = .ok (.ishl, 1) := by decide +kernel
theorem dX8_beside_67 : decode cX8_beside 67 = .ok (.iconst (-1), 1) := by decide +kernel
theorem dX8_beside_68 : decode cX8_beside 68 = .ok (.ixor, 1) := by decide +kernel
theorem dX8_beside_69 : decode cX8_beside 69 = .ok (.iand, 1) := by decide +kernel
theorem dX8_beside_70 : decode cX8_beside 70 = .ok (.if_icmp .eq 5, 3) := by decide +kernel
theorem dX8_beside_73 : decode cX8_beside 73 = .ok (.iconst 0, 1) := by decide +kernel
theorem dX8_beside_74 : decode cX8_beside 74 = .ok (.ireturn, 1) := by decide +kernel
theorem dX8_beside_75 : decode cX8_beside 75 = .ok (.iinc 4 1, 3) := by decide +kernel
theorem dX8_beside_78 : decode cX8_beside 78 = .ok (.goto (-34), 3) := by decide +kernel
theorem dX8_beside_81 : decode cX8_beside 81 = .ok (.iconst 1, 1) := by decide +kernel
theorem dX8_beside_82 : decode cX8_beside 82 = .ok (.ireturn, 1) := by decide +kernel
theorem dX8_best_0 : decode cX8_best 0 = .ok (.iload_n 1, 1) := by decide +kernel
theorem dX8_best_1 : decode cX8_best 1 = .ok (.ifCond .lt 19, 3) := by decide +kernel
theorem dX8_best_4 : decode cX8_best 4 = .ok (.iload_n 1, 1) := by decide +kernel
theorem dX8_best_5 : decode cX8_best 5 = .ok (.iconst 3, 1) := by decide +kernel
theorem dX8_best_6 : decode cX8_best 6 = .ok (.if_icmp .gt 14, 3) := by decide +kernel
theorem dX8_best_9 : decode cX8_best 9 = .ok (.iload_n 2, 1) := by decide +kernel
theorem dX8_best_10 : decode cX8_best 10 = .ok (.iconst 1, 1) := by decide +kernel
theorem dX8_best_11 : decode cX8_best 11 = .ok (.if_icmp .lt 9, 3) := by decide +kernel
theorem dX8_best_14 : decode cX8_best 14 = .ok (.iload_n 2, 1) := by decide +kernel
theorem dX8_best_15 : decode cX8_best 15 = .ok (.bipush 60, 2) := by decide +kernel
theorem dX8_best_17 : decode cX8_best 17 = .ok (.if_icmp .le 5, 3) := by decide +kernel
theorem dX8_best_20 : decode cX8_best 20 = .ok (.iconst (-1), 1) := by decide +kernel
theorem dX8_best_21 : decode cX8_best 21 = .ok (.ireturn, 1) := by decide +kernel
theorem dX8_best_22 : decode cX8_best 22 = .ok (.iload_n 3, 1) := by decide +kernel
theorem dX8_best_23 : decode cX8_best 23 = .ok (.bipush 10, 2) := by decide +kernel
theorem dX8_best_25 : decode cX8_best 25 = .ok (.if_icmp .lt 15, 3) := by decide +kernel
theorem dX8_best_28 : decode cX8_best 28 = .ok (.iload_n 3, 1) := by decide +kernel
theorem dX8_best_29 : decode cX8_best 29 = .ok (.bipush 10, 2) := by decide +kernel
theorem dX8_best_31 : decode cX8_best 31 = .ok (.isub, 1) := by decide +kernel
theorem dX8_best_32 : decode cX8_best 32 = .ok (.iload_n 1, 1) := by decide +kernel
theorem dX8_best_33 : decode cX8_best 33 = .ok (.if_icmp .ge 7, 3) := by decide +kernel
theorem dX8_best_36 : decode cX8_best 36 = .ok (.iconst 1, 1) := by decide +kernel
theorem dX8_best_37 : decode cX8_best 37 = .ok (.goto 4, 3) := by decide +kernel
theorem dX8_best_40 : decode cX8_best 40 = .ok (.iconst 0, 1) := by decide +kernel
theorem dX8_best_41 : decode cX8_best 41 = .ok (.istore 4, 2) := by decide +kernel
theorem dX8_best_43 : decode cX8_best 43 = .ok (.iload_n 3, 1) := by decide +kernel
theorem dX8_best_44 : decode cX8_best 44 = .ok (.ifCond .eq 15, 3) := by decide +kernel
theorem dX8_best_47 : decode cX8_best 47 = .ok (.iload_n 3, 1) := by decide +kernel
theorem dX8_best_48 : decode cX8_best 48 = .ok (.iconst 1, 1) := by decide +kernel
theorem dX8_best_49 : decode cX8_best 49 = .ok (.if_icmp .eq 10, 3) := by decide +kernel
theorem dX8_best_52 : decode cX8_best 52 = .ok (.iload 4, 2) := by decide +kernel
theorem dX8_best_54 : decode cX8_best 54 = .ok (.ifCond .ne 5, 3) := by decide +kernel
theorem dX8_best_57 : decode cX8_best 57 = .ok (.iconst (-1), 1) := by decide +kernel
theorem dX8_best_58 : decode cX8_best 58 = .ok (.ireturn, 1) := by decide +kernel
theorem dX8_best_59 : decode cX8_best 59 = .ok (.aload_n 0, 1) := by decide +kernel
theorem dX8_best_60 : decode cX8_best 60 = .ok (.getfield 37, 3) := by decide +kernel
theorem dX8_best_63 : decode cX8_best 63 = .ok (.aload_n 0, 1) := by decide +kernel
theorem dX8_best_64 : decode cX8_best 64 = .ok (.getfield 64, 3) := by decide +kernel
theorem dX8_best_67 : decode cX8_best 67 = .ok (.aload_n 0, 1) := by decide +kernel
theorem dX8_best_68 : decode cX8_best 68 = .ok (.getfield 19, 3) := by decide +kernel
theorem dX8_best_71 : decode cX8_best 71 = .ok (.aload_n 0, 1) := by decide +kernel
theorem dX8_best_72 : decode cX8_best 72 = .ok (.getfield 23, 3) := by decide +kernel
theorem dX8_best_75 : decode cX8_best 75 = .ok (.iload_n 1, 1) := by decide +kernel
theorem dX8_best_76 : decode cX8_best 76 = .ok (.iload_n 2, 1) := by decide +kernel
theorem dX8_best_77 : decode cX8_best 77 = .ok (.invokevirtual 270, 3) := by decide +kernel
theorem dX8_best_80 : decode cX8_best 80 = .ok (.ifCond .ne 6, 3) := by decide +kernel
theorem dX8_best_83 : decode cX8_best 83 = .ok (.bipush (-2), 2) := by decide +kernel
theorem dX8_best_85 : decode cX8_best 85 = .ok (.ireturn, 1) := by decide +kernel
theorem dX8_best_86 : decode cX8_best 86 = .ok (.iload 4, 2) := by decide +kernel
theorem dX8_best_88 : decode cX8_best 88 = .ok (.ifCond .eq 15, 3) := by decide +kernel
theorem dX8_best_91 : decode cX8_best 91 = .ok (.aload_n 0, 1) := by decide +kernel
theorem dX8_best_92 : decode cX8_best 92 = .ok (.getfield 37, 3) := by decide +kernel
theorem dX8_best_95 : decode cX8_best 95 = .ok (.iload_n 3, 1) := by decide +kernel
theorem dX8_best_96 : decode cX8_best 96 = .ok (.bipush 10, 2) := by decide +kernel
theorem dX8_best_98 : decode cX8_best 98 = .ok (.isub, 1) := by decide +kernel
theorem dX8_best_99 : decode cX8_best 99 = .ok (.invokevirtual 274, 3) := by decide +kernel
theorem dX8_best_102 : decode cX8_best 102 = .ok (.ireturn, 1) := by decide +kernel
theorem dX8_best_103 : decode cX8_best 103 = .ok (.iload_n 3, 1) := by decide +kernel
theorem dX8_best_104 : decode cX8_best 104 = .ok (.ifCond .ne 13, 3) := by decide +kernel
theorem dX8_best_107 : decode cX8_best 107 = .ok (.aload_n 0, 1) := by decide +kernel
theorem dX8_best_108 : decode cX8_best 108 = .ok (.getfield 37, 3) := by decide +kernel
theorem dX8_best_111 : decode cX8_best 111 = .ok (.getfield 277, 3) := by decide +kernel
theorem dX8_best_114 : decode cX8_best 114 = .ok (.goto 10, 3) := by decide +kernel
theorem dX8_best_117 : decode cX8_best 117 = .ok (.aload_n 0, 1) := by decide +kernel
theorem dX8_best_118 : decode cX8_best 118 = .ok (.getfield 37, 3) := by decide +kernel
theorem dX8_best_121 : decode cX8_best 121 = .ok (.getfield 280, 3) := by decide +kernel
theorem dX8_best_124 : decode cX8_best 124 = .ok (.ireturn, 1) := by decide +kernel
def b_X6_fits_2 (m : Mm) (a1 : Int32) (a2 : Int32) (t1 : Int32) : Option ((Int32) ⊕ ((Unit) ⊕ (Unit))) :=
  if (m 40 0) ≤ t1 then (some (Sum.inr (Sum.inr (())))) else ((ald m 41 8 (t1 - (1 : Int32))).bind fun x4 => (ald m 41 8 t1).bind fun x5 => (f_X8_heightIn a2 x4).bind fun x6 => (f_X8_tonsIn a1 x6 (a2 - x4)).bind fun x8 => if x5 = (x4 + x8) then (some (Sum.inl (t1 + 1))) else (some (Sum.inr (Sum.inl (())))))
def f_X6_fits (F : Nat) (m : Mm) (a1 : Int32) (a2 : Int32) : Option (Int32) :=
  (iter F (b_X6_fits_2 m a1 a2) (1 : Int32)).bind (Sum.elim (fun e2 : Unit => some 0) (fun e3 : Unit => some 1))
set_option maxHeartbeats 4000000 in
set_option maxRecDepth 100000 in
theorem ct_X6_fits (F : Nat) {n : Nat} (hn : 113 ≤ n) (P D : Nat) (T : Option Nat) (m : Mm) (a1 : Int32) (a2 : Int32) : Ct yX6_fits cX6_fits 5 (some .boolean) 1 23 [.ref 40, .int a1, .int a2] n n m (RF P D T) (rP m (RF P D T) (f_X6_fits F m a1 a2)) := by
  refine Ct.ofP (own := RX6) (nm := "fits") [(0, .ref 40), (1, .int a1), (2, .int a2)] (by decide) (Nat.le_of_ble_eq_true rfl) rfl rfl rfl ?_
  unfold f_X6_fits
  refine J_iconst 1 dX6_fits_0 (by decide) ?_
  refine J_istore_n 3 [(3, .int 1), (0, .ref 40), (1, .int a1), (2, .int a2)] dX6_fits_1 rfl (by decide) rfl ?_
  refine J_lv [1, 2, 3, 0] rfl ?_
  refine J_loop (pc := 2) (fun t1 : Int32 => [(0, .ref 40), (1, .int a1), (2, .int a2), (3, .int t1)]) (fun t1 => m) (Sum.elim (fun _ => 46) (fun _ => 54)) (Sum.elim (fun e2 : Unit => []) (fun e3 : Unit => [])) (fun _ => []) (Sum.elim (fun e2 : Unit => m) (fun e3 : Unit => m)) ?_ (fun t1 k1 hBt1 hXt1 => ?_) F 1
  · refine sum_all ?_ ?_
    · intro e2
      dsimp only [Sum.elim_inl, Sum.elim_inr]
      refine J_iconst 0 dX6_fits_46 (by decide) ?_
      exact J_zretP dX6_fits_47 rfl rfl rfl
    · intro e3
      dsimp only [Sum.elim_inl, Sum.elim_inr]
      refine J_iconst 1 dX6_fits_54 (by decide) ?_
      exact J_zretP dX6_fits_55 rfl rfl rfl
  · unfold b_X6_fits_2
    refine J_iload_n 3 3 t1 dX6_fits_2 rfl rfl ?_
    refine J_aload_n 0 0 40 dX6_fits_3 rfl rfl ?_
    refine J_getI 40 6 0 dX6_fits_4 fl_6_15 rfl rfl (Nat.lt_of_lt_of_le (Nat.le_of_ble_eq_true rfl) hn) ?_
    refine J_icmp_ge 54 dX6_fits_7 (by decide) ?_ ?_
    · exact J_lv [] rfl (hXt1 (Sum.inr (())))
    · refine J_aload_n 0 0 40 dX6_fits_10 rfl rfl ?_
      refine J_getR 40 6 1 41 dX6_fits_11 fl_6_9 rfl rfl (Nat.lt_of_lt_of_le (Nat.le_of_ble_eq_true rfl) hn) rfl ?_
      refine J_iload_n 3 3 t1 dX6_fits_14 rfl rfl ?_
      refine J_iconst 1 dX6_fits_15 (by decide) ?_
      refine J_isub dX6_fits_16 ?_
      refine J_iald 41 8 dX6_fits_17 rfl (Nat.lt_of_lt_of_le (Nat.le_of_ble_eq_true rfl) hn) (fun x4 => ?_)
      refine J_istore 4 [(4, .int x4), (0, .ref 40), (1, .int a1), (2, .int a2), (3, .int t1)] dX6_fits_18 (by decide) rfl ?_
      refine J_aload_n 0 1 40 dX6_fits_20 rfl rfl ?_
      refine J_getR 40 6 1 41 dX6_fits_21 fl_6_9 rfl rfl (Nat.lt_of_lt_of_le (Nat.le_of_ble_eq_true rfl) hn) rfl ?_
      refine J_iload_n 3 4 t1 dX6_fits_24 rfl rfl ?_
      refine J_iald 41 8 dX6_fits_25 rfl (Nat.lt_of_lt_of_le (Nat.le_of_ble_eq_true rfl) hn) (fun x5 => ?_)
      refine J_iload 4 0 x4 dX6_fits_26 rfl ?_
      refine J_iload_n 1 2 a1 dX6_fits_28 rfl rfl ?_
      refine J_iload_n 2 3 a2 dX6_fits_29 rfl rfl ?_
      refine J_iload 4 0 x4 dX6_fits_30 rfl ?_
      refine J_callSNP 2 "WhichHold" [.int a2, .int x4] dX6_fits_32 mv_X8_heightIn mv_X8_heightIns lk_6_23 (ct_X8_heightIn F hn P D T m a2 x4) rfl ⟨by decide, by decide⟩ (Nat.le_of_ble_eq_true rfl) (fun x6 => ?_)
      refine J_iload_n 2 3 a2 dX6_fits_35 rfl rfl ?_
      refine J_iload 4 0 x4 dX6_fits_36 rfl ?_
      refine J_isub dX6_fits_38 ?_
      refine J_callSNP 3 "WhichHold" [.int a1, .int x6, .int (a2 - x4)] dX6_fits_39 mv_X8_tonsIn mv_X8_tonsIns lk_6_27 (ct_X8_tonsIn F hn P D T m a1 x6 (a2 - x4)) rfl ⟨by decide, by decide⟩ (Nat.le_of_ble_eq_true rfl) (fun x8 => ?_)
      refine J_iadd dX6_fits_42 ?_
      refine J_icmp_eq 48 dX6_fits_43 (by decide) ?_ ?_
      · refine J_iinc 3 4 [(3, .int (t1 + 1)), (4, .int x4), (0, .ref 40), (1, .int a1), (2, .int a2)] t1 (t1 + 1) dX6_fits_48 rfl rfl (by decide) rfl ?_
        refine J_goto 2 dX6_fits_51 (by decide) ?_
        exact J_lv [2, 3, 4, 0] rfl (hBt1 (t1 + 1))
      · exact J_lv [] rfl (hXt1 (Sum.inl (())))
def b_X6_ratesThatFit_2 (m : Mm) (a1 : Int32) (t1 : Int32) : Option ((Int32) ⊕ ((Unit) ⊕ (Unit))) :=
  if (m 40 0) ≤ t1 then (some (Sum.inr (Sum.inr (())))) else ((ald m 41 8 t1).bind fun x4 => if x4 ≤ a1 then (some (Sum.inl (t1 + 1))) else (some (Sum.inr (Sum.inl (())))))
def b_X6_ratesThatFit_32 (F : Nat) (m : Mm) (a1 : Int32) (t5 : Int32 × Int32) : Option ((Int32 × Int32) ⊕ (Int32)) :=
  if (20 : Int32) < t5.2 then (some (Sum.inr t5.1)) else ((f_X6_fits F m t5.2 a1).bind fun x7 => (if x7 = 0 then (some t5.1) else (letv (t5.1 ||| ((1 : Int32) <<< (t5.2 &&& 31))) fun x10 => some x10) : Option (Int32)).bind fun y9 => some (Sum.inl (y9, t5.2 + 1)))
def f_X6_ratesThatFit (F : Nat) (m : Mm) (a1 : Int32) : Option (Int32) :=
  (iter F (b_X6_ratesThatFit_2 m a1) (0 : Int32)).bind (Sum.elim (fun e2 : Unit => some (-1)) (fun e3 : Unit => (iter F (b_X6_ratesThatFit_32 F m a1) ((0, 1) : Int32 × Int32)).bind (fun e6 : Int32 => some e6)))
set_option maxHeartbeats 4000000 in
set_option maxRecDepth 100000 in
theorem ct_X6_ratesThatFit (F : Nat) {n : Nat} (hn : 113 ≤ n) (P D : Nat) (T : Option Nat) (m : Mm) (a1 : Int32) : Ct yX6_ratesThatFit cX6_ratesThatFit 4 (some .int) 2 47 [.ref 40, .int a1] n n m (RF P D T) (rP m (RF P D T) (f_X6_ratesThatFit F m a1)) := by
  refine Ct.ofP (own := RX6) (nm := "ratesThatFit") [(0, .ref 40), (1, .int a1)] (by decide) (Nat.le_of_ble_eq_true rfl) rfl rfl rfl ?_
  unfold f_X6_ratesThatFit
  refine J_iconst 0 dX6_ratesThatFit_0 (by decide) ?_
  refine J_istore_n 2 [(2, .int 0), (0, .ref 40), (1, .int a1)] dX6_ratesThatFit_1 rfl (by decide) rfl ?_
  refine J_lv [1, 2, 0] rfl ?_
  refine J_loop (pc := 2) (fun t1 : Int32 => [(0, .ref 40), (1, .int a1), (2, .int t1)]) (fun t1 => m) (Sum.elim (fun _ => 20) (fun _ => 28)) (Sum.elim (fun e2 : Unit => []) (fun e3 : Unit => [(0, .ref 40), (1, .int a1)])) (fun _ => []) (Sum.elim (fun e2 : Unit => m) (fun e3 : Unit => m)) ?_ (fun t1 k1 hBt1 hXt1 => ?_) F 0
  · refine sum_all ?_ ?_
    · intro e2
      dsimp only [Sum.elim_inl, Sum.elim_inr]
      refine J_iconst (-1) dX6_ratesThatFit_20 (by decide) ?_
      exact J_iretP dX6_ratesThatFit_21 rfl rfl
    · intro e3
      dsimp only [Sum.elim_inl, Sum.elim_inr]
      refine J_iconst 0 dX6_ratesThatFit_28 (by decide) ?_
      refine J_istore_n 2 [(2, .int 0), (0, .ref 40), (1, .int a1)] dX6_ratesThatFit_29 rfl (by decide) rfl ?_
      refine J_iconst 1 dX6_ratesThatFit_30 (by decide) ?_
      refine J_istore_n 3 [(3, .int 1), (2, .int 0), (0, .ref 40), (1, .int a1)] dX6_ratesThatFit_31 rfl (by decide) rfl ?_
      refine J_lv [2, 3, 1, 0] rfl ?_
      refine J_loop (pc := 32) (fun t5 : Int32 × Int32 => [(0, .ref 40), (1, .int a1), (2, .int t5.1), (3, .int t5.2)]) (fun t5 => m) (fun _ => 59) (fun e6 => [(2, .int e6)]) (fun _ => []) (fun e6 => m) ?_ (fun t5 k1 hBt5 hXt5 => ?_) F ((0, 1))
      · refine fun e6 => ?_
        refine J_iload_n 2 0 e6 dX6_ratesThatFit_59 rfl rfl ?_
        exact J_iretP dX6_ratesThatFit_60 rfl rfl
      · unfold b_X6_ratesThatFit_32
        refine J_iload_n 3 3 t5.2 dX6_ratesThatFit_32 rfl rfl ?_
        refine J_bipush 20 dX6_ratesThatFit_33 (by decide) ?_
        refine J_icmp_gt 59 dX6_ratesThatFit_35 (by decide) ?_ ?_
        · exact J_lv [2] rfl (hXt5 t5.1)
        · refine J_aload_n 0 0 40 dX6_ratesThatFit_38 rfl rfl ?_
          refine J_iload_n 3 3 t5.2 dX6_ratesThatFit_39 rfl rfl ?_
          refine J_iload_n 1 1 a1 dX6_ratesThatFit_40 rfl rfl ?_
          refine J_callVP 40 6 2 [.int t5.2, .int a1] dX6_ratesThatFit_41 mv_X6_fits mv_X6_fitsv lk_6_19 (ct_X6_fits F hn P D T m t5.2 a1) rfl rfl (by decide) rfl (Nat.lt_of_lt_of_le (Nat.le_of_ble_eq_true rfl) hn) ⟨by decide, by decide⟩ (Nat.le_of_ble_eq_true rfl) (fun x7 => ?_)
          refine J_seqJ 53 (fun y9 : Int32 => [(0, .ref 40), (1, .int a1), (2, .int y9), (3, .int t5.2)]) (fun y9 => []) (fun y9 => m) (fun y9 => ?_) (fun k1 hEy9 => ?_)
          · refine J_iinc 3 3 [(3, .int (t5.2 + 1)), (0, .ref 40), (1, .int a1), (2, .int y9)] t5.2 (t5.2 + 1) dX6_ratesThatFit_53 rfl rfl (by decide) rfl ?_
            refine J_goto 32 dX6_ratesThatFit_56 (by decide) ?_
            exact J_lv [1, 2, 3, 0] rfl (hBt5 (y9, t5.2 + 1))
          · refine J_if_eq 53 dX6_ratesThatFit_44 (by decide) ?_ ?_
            · exact J_lv [0, 1, 2, 3] rfl (hEy9 t5.1)
            · refine J_iload_n 2 2 t5.1 dX6_ratesThatFit_47 rfl rfl ?_
              refine J_iconst 1 dX6_ratesThatFit_48 (by decide) ?_
              refine J_iload_n 3 3 t5.2 dX6_ratesThatFit_49 rfl rfl ?_
              refine J_ishl dX6_ratesThatFit_50 ?_
              refine J_ior dX6_ratesThatFit_51 ?_
              refine J_let (fun x10 => ?_)
              refine J_istore_n 2 [(2, .int x10), (0, .ref 40), (1, .int a1), (3, .int t5.2)] dX6_ratesThatFit_52 rfl (by decide) rfl ?_
              exact J_lv [1, 2, 0, 3] rfl (hEy9 x10)
  · unfold b_X6_ratesThatFit_2
    refine J_iload_n 2 2 t1 dX6_ratesThatFit_2 rfl rfl ?_
    refine J_aload_n 0 0 40 dX6_ratesThatFit_3 rfl rfl ?_
    refine J_getI 40 6 0 dX6_ratesThatFit_4 fl_6_15 rfl rfl (Nat.lt_of_lt_of_le (Nat.le_of_ble_eq_true rfl) hn) ?_
    refine J_icmp_ge 28 dX6_ratesThatFit_7 (by decide) ?_ ?_
    · exact J_lv [0, 1] rfl (hXt1 (Sum.inr (())))
    · refine J_aload_n 0 0 40 dX6_ratesThatFit_10 rfl rfl ?_
      refine J_getR 40 6 1 41 dX6_ratesThatFit_11 fl_6_9 rfl rfl (Nat.lt_of_lt_of_le (Nat.le_of_ble_eq_true rfl) hn) rfl ?_
      refine J_iload_n 2 2 t1 dX6_ratesThatFit_14 rfl rfl ?_
      refine J_iald 41 8 dX6_ratesThatFit_15 rfl (Nat.lt_of_lt_of_le (Nat.le_of_ble_eq_true rfl) hn) (fun x4 => ?_)
      refine J_iload_n 1 1 a1 dX6_ratesThatFit_16 rfl rfl ?_
      refine J_icmp_le 22 dX6_ratesThatFit_17 (by decide) ?_ ?_
      · refine J_iinc 2 2 [(2, .int (t1 + 1)), (0, .ref 40), (1, .int a1)] t1 (t1 + 1) dX6_ratesThatFit_22 rfl rfl (by decide) rfl ?_
        refine J_goto 2 dX6_ratesThatFit_25 (by decide) ?_
        exact J_lv [1, 2, 0] rfl (hBt1 (t1 + 1))
      · exact J_lv [] rfl (hXt1 (Sum.inl (())))
def f_X7_copyFrom (m : Mm) (S : Nat) (S2 : Nat) : Option (Mm) :=
  (f_X7_copyWithoutOrders m S S2).bind fun m2 => (f_X0_copyFrom m2 (S + 6) (S2 + 6)).bind fun m4 => some m4
set_option maxHeartbeats 4000000 in
set_option maxRecDepth 100000 in
theorem ct_X7_copyFrom (F : Nat) {n : Nat} (hn : 113 ≤ n) (P D : Nat) (T : Option Nat) (m : Mm) (S : Nat) (hS : isSt S) (S2 : Nat) (hS2 : isSt S2) : Ct yX7_copyFrom cX7_copyFrom 2 none 2 47 [.ref S, .ref S2] n n m (RF P D T) (rV (RF P D T) (f_X7_copyFrom m S S2)) := by
  refine Ct.ofV (own := RX7) (nm := "copyFrom") [(0, .ref S), (1, .ref S2)] (by decide) (Nat.le_of_ble_eq_true rfl) rfl rfl rfl ?_
  unfold f_X7_copyFrom
  refine J_aload_n 0 0 S dX7_copyFrom_0 rfl rfl ?_
  refine J_aload_n 1 1 S2 dX7_copyFrom_1 rfl rfl ?_
  refine J_callVV S 7 1 [.ref S2] dX7_copyFrom_2 mv_X7_copyWithoutOrders mv_X7_copyWithoutOrdersv lk_7_75 (ct_X7_copyWithoutOrders F hn P D T m S hS S2 hS2) rfl (layc_St_0 hS) (by decide) rfl (lt_St_0 hS hn) ⟨by decide, by decide⟩ (Nat.le_of_ble_eq_true rfl) (fun m2 => ?_)
  refine J_aload_n 0 0 S dX7_copyFrom_5 rfl rfl ?_
  refine J_getR S 7 9 (S + 6) dX7_copyFrom_6 fl_7_30 (layc_St_0 hS) rfl (lt_St_0 hS hn) (rf_St_0_9 hS) ?_
  refine J_aload_n 1 1 S2 dX7_copyFrom_9 rfl rfl ?_
  refine J_getR S2 7 9 (S2 + 6) dX7_copyFrom_10 fl_7_30 (layc_St_0 hS2) rfl (lt_St_0 hS2 hn) (rf_St_0_9 hS2) ?_
  refine J_callVV (S + 6) 0 1 [.ref (S2 + 6)] dX7_copyFrom_13 mv_X0_copyFrom mv_X0_copyFromv lk_7_79 (ct_X0_copyFrom F hn P D T m2 (S + 6) (or_St hS) (S2 + 6) (or_St hS2)) rfl (layc_St_6 hS) (by decide) rfl (lt_St_6 hS hn) ⟨by decide, by decide⟩ (Nat.le_of_ble_eq_true rfl) (fun m4 => ?_)
  exact J_vretV dX7_copyFrom_16 rfl rfl
def f_X7_startFrom (F : Nat) (m : Mm) (S : Nat) (Q : Nat) : Option (Mm) :=
  letv (up2 m S 0 0) fun m1 => (acopy m1 (Q + 4) 8 0 (S + 1) 8 0 8).bind fun m2 => (acopy m2 (Q + 10) 10 0 (S + 3) 10 0 10).bind fun m3 => (acopy m3 (Q + 15) 3 0 (S + 5) 3 0 3).bind fun m4 => (f_J7_fill m4 (S + 2) 8 0).bind fun m6 => (f_J7_fill m6 (S + 4) 4 0).bind fun m8 => letv (up2 m8 (S + 6) 0 0) fun m9 => (f_X7_seeWhetherSinks F m9 S Q).bind fun m11 => some m11
set_option maxHeartbeats 4000000 in
set_option maxRecDepth 100000 in
theorem ct_X7_startFrom (F : Nat) {n : Nat} (hn : 113 ≤ n) (P D : Nat) (T : Option Nat) (m : Mm) (S : Nat) (hS : isSt S) (Q : Nat) (hQ : isPl Q) : Ct yX7_startFrom cX7_startFrom 2 none 3 69 [.ref S, .ref Q] n n m (RF P D T) (rV (RF P D T) (f_X7_startFrom F m S Q)) := by
  refine Ct.ofV (own := RX7) (nm := "startFrom") [(0, .ref S), (1, .ref Q)] (by decide) (Nat.le_of_ble_eq_true rfl) rfl rfl rfl ?_
  unfold f_X7_startFrom
  refine J_aload_n 0 0 S dX7_startFrom_0 rfl rfl ?_
  refine J_iconst 0 dX7_startFrom_1 (by decide) ?_
  refine J_putI S 7 0 dX7_startFrom_2 fl_7_41 (layc_St_0 hS) rfl (lt_St_0 hS hn) rfl rfl rfl (fun m1 => ?_)
  refine J_aload_n 1 1 Q dX7_startFrom_5 rfl rfl ?_
  refine J_getR Q 1 7 (Q + 4) dX7_startFrom_6 fl_7_45 (layc_Pl_0 hQ) rfl (lt_Pl_0 hQ hn) (rf_Pl_0_7 hQ) ?_
  refine J_iconst 0 dX7_startFrom_9 (by decide) ?_
  refine J_aload_n 0 0 S dX7_startFrom_10 rfl rfl ?_
  refine J_getR S 7 4 (S + 1) dX7_startFrom_11 fl_7_9 (layc_St_0 hS) rfl (lt_St_0 hS hn) (rf_St_0_4 hS) ?_
  refine J_iconst 0 dX7_startFrom_14 (by decide) ?_
  refine J_bipush 8 dX7_startFrom_15 (by decide) ?_
  refine J_acopy (Q + 4) 8 (S + 1) 8 dX7_startFrom_17 lk_7_50 (lay_Pl_4 hQ) (lay_St_1 hS) (lt_Pl_4 hQ hn) (lt_St_1 hS hn) (by decide) (Nat.le_of_ble_eq_true rfl) (fun m2 => ?_)
  refine J_aload_n 1 1 Q dX7_startFrom_20 rfl rfl ?_
  refine J_getR Q 1 13 (Q + 10) dX7_startFrom_21 fl_7_56 (layc_Pl_0 hQ) rfl (lt_Pl_0 hQ hn) (rf_Pl_0_13 hQ) ?_
  refine J_iconst 0 dX7_startFrom_24 (by decide) ?_
  refine J_aload_n 0 0 S dX7_startFrom_25 rfl rfl ?_
  refine J_getR S 7 6 (S + 3) dX7_startFrom_26 fl_7_18 (layc_St_0 hS) rfl (lt_St_0 hS hn) (rf_St_0_6 hS) ?_
  refine J_iconst 0 dX7_startFrom_29 (by decide) ?_
  refine J_bipush 10 dX7_startFrom_30 (by decide) ?_
  refine J_acopy (Q + 10) 10 (S + 3) 10 dX7_startFrom_32 lk_7_50 (lay_Pl_10 hQ) (lay_St_3 hS) (lt_Pl_10 hQ hn) (lt_St_3 hS hn) (by decide) (Nat.le_of_ble_eq_true rfl) (fun m3 => ?_)
  refine J_aload_n 1 1 Q dX7_startFrom_35 rfl rfl ?_
  refine J_getR Q 1 18 (Q + 15) dX7_startFrom_36 fl_7_59 (layc_Pl_0 hQ) rfl (lt_Pl_0 hQ hn) (rf_Pl_0_18 hQ) ?_
  refine J_iconst 0 dX7_startFrom_39 (by decide) ?_
  refine J_aload_n 0 0 S dX7_startFrom_40 rfl rfl ?_
  refine J_getR S 7 8 (S + 5) dX7_startFrom_41 fl_7_24 (layc_St_0 hS) rfl (lt_St_0 hS hn) (rf_St_0_8 hS) ?_
  refine J_iconst 0 dX7_startFrom_44 (by decide) ?_
  refine J_iconst 3 dX7_startFrom_45 (by decide) ?_
  refine J_acopy (Q + 15) 3 (S + 5) 3 dX7_startFrom_46 lk_7_50 (lay_Pl_15 hQ) (lay_St_5 hS) (lt_Pl_15 hQ hn) (lt_St_5 hS hn) (by decide) (Nat.le_of_ble_eq_true rfl) (fun m4 => ?_)
  refine J_aload_n 0 0 S dX7_startFrom_49 rfl rfl ?_
  refine J_getR S 7 5 (S + 2) dX7_startFrom_50 fl_7_15 (layc_St_0 hS) rfl (lt_St_0 hS hn) (rf_St_0_5 hS) ?_
  refine J_iconst 0 dX7_startFrom_53 (by decide) ?_
  refine J_callSV 2 [.ref (S + 2), .int 0] dX7_startFrom_54 mv_J7_fill mv_J7_fills lk_7_62 (ct_J7_fill m4 (RF P D T) (S + 2) 8 (lay_St_2 hS) (lt_St_2 hS hn) 0) rfl ⟨by decide, by decide⟩ (Nat.le_of_ble_eq_true rfl) (fun m6 => ?_)
  refine J_aload_n 0 0 S dX7_startFrom_57 rfl rfl ?_
  refine J_getR S 7 7 (S + 4) dX7_startFrom_58 fl_7_21 (layc_St_0 hS) rfl (lt_St_0 hS hn) (rf_St_0_7 hS) ?_
  refine J_iconst 0 dX7_startFrom_61 (by decide) ?_
  refine J_callSV 2 [.ref (S + 4), .int 0] dX7_startFrom_62 mv_J7_fill mv_J7_fills lk_7_62 (ct_J7_fill m6 (RF P D T) (S + 4) 4 (lay_St_4 hS) (lt_St_4 hS hn) 0) rfl ⟨by decide, by decide⟩ (Nat.le_of_ble_eq_true rfl) (fun m8 => ?_)
  refine J_aload_n 0 0 S dX7_startFrom_65 rfl rfl ?_
  refine J_getR S 7 9 (S + 6) dX7_startFrom_66 fl_7_30 (layc_St_0 hS) rfl (lt_St_0 hS hn) (rf_St_0_9 hS) ?_
  refine J_iconst 0 dX7_startFrom_69 (by decide) ?_
  refine J_putI (S + 6) 0 0 dX7_startFrom_70 fl_7_68 (layc_St_6 hS) rfl (lt_St_6 hS hn) rfl rfl rfl (fun m9 => ?_)
  refine J_aload_n 0 0 S dX7_startFrom_73 rfl rfl ?_
  refine J_aload_n 1 1 Q dX7_startFrom_74 rfl rfl ?_
  refine J_callVV S 7 1 [.ref Q] dX7_startFrom_75 mv_X7_seeWhetherSinks mv_X7_seeWhetherSinksv lk_7_71 (ct_X7_seeWhetherSinks F hn P D T m9 S hS Q hQ) rfl (layc_St_0 hS) (by decide) rfl (lt_St_0 hS hn) ⟨by decide, by decide⟩ (Nat.le_of_ble_eq_true rfl) (fun m11 => ?_)
  exact J_vretV dX7_startFrom_78 rfl rfl
def f_X8_back (m : Mm) (a1 : Int32) : Option (Int32 × Mm) :=
  if a1 < 0 then (some ((-1), m)) else (if a1 < (2 : Int32) then ((ald m 33 2 a1).bind fun x1 => if x1 = 0 then (some ((-2), m)) else ((imgOf a1).bind fun b2 => (f_X7_copyFrom m 4 b2).bind fun m4 => (f_X4_forget m4).bind fun m6 => some (m6 4 0, m6))) else (some ((-1), m)))
set_option maxHeartbeats 4000000 in
set_option maxRecDepth 100000 in
theorem ct_X8_back (F : Nat) {n : Nat} (hn : 113 ≤ n) (P D : Nat) (T : Option Nat) (m : Mm) (a1 : Int32) : Ct yX8_back cX8_back 2 (some .int) 3 68 [.ref 0, .int a1] n n m (RF P D T) (rI (RF P D T) (f_X8_back m a1)) := by
  refine Ct.ofI (own := RX8) (nm := "back") [(0, .ref 0), (1, .int a1)] (by decide) (Nat.le_of_ble_eq_true rfl) rfl rfl rfl ?_
  unfold f_X8_back
  refine J_iload_n 1 1 a1 dX8_back_0 rfl rfl ?_
  refine J_if_lt 9 dX8_back_1 (by decide) ?_ ?_
  · refine J_iconst (-1) dX8_back_9 (by decide) ?_
    exact J_iretI dX8_back_10 rfl rfl
  · refine J_iload_n 1 1 a1 dX8_back_4 rfl rfl ?_
    refine J_iconst 2 dX8_back_5 (by decide) ?_
    refine J_icmp_lt 11 dX8_back_6 (by decide) ?_ ?_
    · refine J_aload_n 0 0 0 dX8_back_11 rfl rfl ?_
      refine J_getR 0 8 4 33 dX8_back_12 fl_8_30 rfl rfl (Nat.lt_of_lt_of_le (Nat.le_of_ble_eq_true rfl) hn) rfl ?_
      refine J_iload_n 1 1 a1 dX8_back_15 rfl rfl ?_
      refine J_zald 33 2 dX8_back_16 rfl (Nat.lt_of_lt_of_le (Nat.le_of_ble_eq_true rfl) hn) (fun x1 => ?_)
      refine J_if_ne 23 dX8_back_17 (by decide) ?_ ?_
      · refine J_aload_n 0 0 0 dX8_back_23 rfl rfl ?_
        refine J_getR 0 8 1 4 dX8_back_24 fl_8_19 rfl rfl (Nat.lt_of_lt_of_le (Nat.le_of_ble_eq_true rfl) hn) rfl ?_
        refine J_aload_n 0 0 0 dX8_back_27 rfl rfl ?_
        refine J_getR 0 8 3 32 dX8_back_28 fl_8_26 rfl rfl (Nat.lt_of_lt_of_le (Nat.le_of_ble_eq_true rfl) hn) rfl ?_
        refine J_iload_n 1 1 a1 dX8_back_31 rfl rfl ?_
        rw [← imgOf_eq P D T]
        refine J_aald 32 2 23 3 dX8_back_32 rfl (by decide) (fun _ => rfl) (Nat.lt_of_lt_of_le (Nat.le_of_ble_eq_true rfl) hn) (fun b2 hb2 => ?_)
        replace hb2 := st_img hb2
        refine J_callVV 4 7 1 [.ref b2] dX8_back_33 mv_X7_copyFrom mv_X7_copyFromv lk_8_229 (ct_X7_copyFrom F hn P D T m 4 (by simp [isSt]) b2 hb2) rfl rfl (by decide) rfl (Nat.lt_of_lt_of_le (Nat.le_of_ble_eq_true rfl) hn) ⟨by decide, by decide⟩ (Nat.le_of_ble_eq_true rfl) (fun m4 => ?_)
        refine J_aload_n 0 0 0 dX8_back_36 rfl rfl ?_
        refine J_getR 0 8 5 34 dX8_back_37 fl_8_37 rfl rfl (Nat.lt_of_lt_of_le (Nat.le_of_ble_eq_true rfl) hn) rfl ?_
        refine J_callVV 34 4 0 [] dX8_back_40 mv_X4_forget mv_X4_forgetv lk_8_103 (ct_X4_forget F hn P D T m4) rfl rfl (by decide) rfl (Nat.lt_of_lt_of_le (Nat.le_of_ble_eq_true rfl) hn) ⟨by decide, by decide⟩ (Nat.le_of_ble_eq_true rfl) (fun m6 => ?_)
        refine J_aload_n 0 0 0 dX8_back_43 rfl rfl ?_
        refine J_getR 0 8 1 4 dX8_back_44 fl_8_19 rfl rfl (Nat.lt_of_lt_of_le (Nat.le_of_ble_eq_true rfl) hn) rfl ?_
        refine J_getI 4 7 0 dX8_back_47 fl_8_211 rfl rfl (Nat.lt_of_lt_of_le (Nat.le_of_ble_eq_true rfl) hn) ?_
        exact J_iretI dX8_back_50 rfl rfl
      · refine J_bipush (-2) dX8_back_20 (by decide) ?_
        exact J_iretI dX8_back_22 rfl rfl
    · refine J_iconst (-1) dX8_back_9 (by decide) ?_
      exact J_iretI dX8_back_10 rfl rfl
def f_X8_isHold (m : Mm) (P : Nat) (a1 : Int32) : Option (Int32) :=
  if a1 < 0 then (some 0) else (if (m P 0) ≤ a1 then (some 0) else (some 1))
set_option maxHeartbeats 4000000 in
set_option maxRecDepth 100000 in
theorem ct_X8_isHold (F : Nat) {n : Nat} (hn : 113 ≤ n) (P D : Nat) (T : Option Nat) (hP : isPl P) (m : Mm) (a1 : Int32) : Ct yX8_isHold cX8_isHold 2 (some .boolean) 0 0 [.ref 0, .int a1] n n m (RF P D T) (rP m (RF P D T) (f_X8_isHold m P a1)) := by
  refine Ct.ofP (own := RX8) (nm := "isHold") [(0, .ref 0), (1, .int a1)] (by decide) (Nat.le_of_ble_eq_true rfl) rfl rfl rfl ?_
  unfold f_X8_isHold
  refine J_iload_n 1 1 a1 dX8_isHold_0 rfl rfl ?_
  refine J_if_lt 19 dX8_isHold_1 (by decide) ?_ ?_
  · refine J_iconst 0 dX8_isHold_19 (by decide) ?_
    exact J_zretP dX8_isHold_20 rfl rfl rfl
  · refine J_iload_n 1 1 a1 dX8_isHold_4 rfl rfl ?_
    refine J_aload_n 0 0 0 dX8_isHold_5 rfl rfl ?_
    refine J_getR 0 8 9 P dX8_isHold_6 fl_8_64 rfl rfl (Nat.lt_of_lt_of_le (Nat.le_of_ble_eq_true rfl) hn) rfl ?_
    refine J_getI P 1 0 dX8_isHold_9 fl_8_297 (layc_Pl_0 hP) rfl (lt_Pl_0 hP hn) ?_
    refine J_icmp_ge 19 dX8_isHold_12 (by decide) ?_ ?_
    · refine J_iconst 0 dX8_isHold_19 (by decide) ?_
      exact J_zretP dX8_isHold_20 rfl rfl rfl
    · refine J_iconst 1 dX8_isHold_15 (by decide) ?_
      refine J_goto 20 dX8_isHold_16 (by decide) ?_
      exact J_zretP dX8_isHold_20 rfl rfl rfl
def f_X8_floatsWithFull (F : Nat) (m : Mm) (P : Nat) (a1 : Int32) : Option (Int32 × Mm) :=
  (f_X3_weigh F m 39 P 5 a1).bind fun m2 => (f_X3_whySinks m2 39 P).bind fun x3 => if x3 = 0 then (some (1, m2)) else (some (0, m2))
set_option maxHeartbeats 4000000 in
set_option maxRecDepth 100000 in
theorem ct_X8_floatsWithFull (F : Nat) {n : Nat} (hn : 113 ≤ n) (P D : Nat) (T : Option Nat) (hP : isPl P) (m : Mm) (a1 : Int32) : Ct yX8_floatsWithFull cX8_floatsWithFull 2 (some .boolean) 2 48 [.ref 0, .int a1] n n m (RF P D T) (rI (RF P D T) (f_X8_floatsWithFull F m P a1)) := by
  refine Ct.ofI (own := RX8) (nm := "floatsWithFull") [(0, .ref 0), (1, .int a1)] (by decide) (Nat.le_of_ble_eq_true rfl) rfl rfl rfl ?_
  unfold f_X8_floatsWithFull
  refine J_aload_n 0 0 0 dX8_floatsWithFull_0 rfl rfl ?_
  refine J_getR 0 8 6 39 dX8_floatsWithFull_1 fl_8_44 rfl rfl (Nat.lt_of_lt_of_le (Nat.le_of_ble_eq_true rfl) hn) rfl ?_
  refine J_aload_n 0 0 0 dX8_floatsWithFull_4 rfl rfl ?_
  refine J_getR 0 8 9 P dX8_floatsWithFull_5 fl_8_64 rfl rfl (Nat.lt_of_lt_of_le (Nat.le_of_ble_eq_true rfl) hn) rfl ?_
  refine J_aload_n 0 0 0 dX8_floatsWithFull_8 rfl rfl ?_
  refine J_getR 0 8 1 4 dX8_floatsWithFull_9 fl_8_19 rfl rfl (Nat.lt_of_lt_of_le (Nat.le_of_ble_eq_true rfl) hn) rfl ?_
  refine J_getR 4 7 4 5 dX8_floatsWithFull_12 fl_8_123 rfl rfl (Nat.lt_of_lt_of_le (Nat.le_of_ble_eq_true rfl) hn) rfl ?_
  refine J_iload_n 1 1 a1 dX8_floatsWithFull_15 rfl rfl ?_
  refine J_callVV 39 3 3 [.ref P, .ref 5, .int a1] dX8_floatsWithFull_16 mv_X3_weigh mv_X3_weighv lk_8_207 (ct_X3_weigh F hn P D T m 39 (by simp [isSc]) P hP 5 ⟨rfl, Nat.le_of_ble_eq_true rfl⟩ a1) rfl rfl (by decide) rfl (Nat.lt_of_lt_of_le (Nat.le_of_ble_eq_true rfl) hn) ⟨by decide, by decide⟩ (Nat.le_of_ble_eq_true rfl) (fun m2 => ?_)
  refine J_aload_n 0 0 0 dX8_floatsWithFull_19 rfl rfl ?_
  refine J_getR 0 8 6 39 dX8_floatsWithFull_20 fl_8_44 rfl rfl (Nat.lt_of_lt_of_le (Nat.le_of_ble_eq_true rfl) hn) rfl ?_
  refine J_aload_n 0 0 0 dX8_floatsWithFull_23 rfl rfl ?_
  refine J_getR 0 8 9 P dX8_floatsWithFull_24 fl_8_64 rfl rfl (Nat.lt_of_lt_of_le (Nat.le_of_ble_eq_true rfl) hn) rfl ?_
  refine J_callVP 39 3 1 [.ref P] dX8_floatsWithFull_27 mv_X3_whySinks mv_X3_whySinksv lk_8_373 (ct_X3_whySinks F hn P D T m2 39 (by simp [isSc]) P hP) rfl rfl (by decide) rfl (Nat.lt_of_lt_of_le (Nat.le_of_ble_eq_true rfl) hn) ⟨by decide, by decide⟩ (Nat.le_of_ble_eq_true rfl) (fun x3 => ?_)
  refine J_if_ne 37 dX8_floatsWithFull_30 (by decide) ?_ ?_
  · refine J_iconst 0 dX8_floatsWithFull_37 (by decide) ?_
    exact J_zretI dX8_floatsWithFull_38 rfl rfl rfl
  · refine J_iconst 1 dX8_floatsWithFull_33 (by decide) ?_
    refine J_goto 38 dX8_floatsWithFull_34 (by decide) ?_
    exact J_zretI dX8_floatsWithFull_38 rfl rfl rfl
def b_X8_partnersOf_4 (F : Nat) (P : Nat) (a1 : Int32) (t1 : Int32 × Int32 × Mm) : Option ((Int32 × Int32 × Mm) ⊕ (Int32 × Mm)) :=
  if (t1.2.2 P 0) ≤ t1.2.1 then (some (Sum.inr ((t1.1, t1.2.2)))) else ((if t1.2.1 = a1 then (some (t1.1, t1.2.2)) else (bind2 (f_X8_floatsWithFull F t1.2.2 P (((1 : Int32) <<< (t1.2.1 &&& 31)) ||| ((1 : Int32) <<< (a1 &&& 31)))) fun x4 m5 => if x4 = 0 then (some (t1.1, m5)) else (letv (t1.1 ||| ((1 : Int32) <<< (t1.2.1 &&& 31))) fun x6 => some (x6, m5))) : Option (Int32 × Mm)).bind fun y3 => some (Sum.inl (y3.1, t1.2.1 + 1, y3.2)))
def f_X8_partnersOf (F : Nat) (m : Mm) (P : Nat) (a1 : Int32) : Option (Int32 × Mm) :=
  (iter F (b_X8_partnersOf_4 F P a1) ((0, 0, m) : Int32 × Int32 × Mm)).bind (fun e2 : Int32 × Mm => some (e2.1, e2.2))
set_option maxHeartbeats 4000000 in
set_option maxRecDepth 100000 in
theorem ct_X8_partnersOf (F : Nat) {n : Nat} (hn : 113 ≤ n) (P D : Nat) (T : Option Nat) (hP : isPl P) (m : Mm) (a1 : Int32) : Ct yX8_partnersOf cX8_partnersOf 4 (some .int) 3 69 [.ref 0, .int a1] n n m (RF P D T) (rI (RF P D T) (f_X8_partnersOf F m P a1)) := by
  refine Ct.ofI (own := RX8) (nm := "partnersOf") [(0, .ref 0), (1, .int a1)] (by decide) (Nat.le_of_ble_eq_true rfl) rfl rfl rfl ?_
  unfold f_X8_partnersOf
  refine J_iconst 0 dX8_partnersOf_0 (by decide) ?_
  refine J_istore_n 2 [(2, .int 0), (0, .ref 0), (1, .int a1)] dX8_partnersOf_1 rfl (by decide) rfl ?_
  refine J_iconst 0 dX8_partnersOf_2 (by decide) ?_
  refine J_istore_n 3 [(3, .int 0), (2, .int 0), (0, .ref 0), (1, .int a1)] dX8_partnersOf_3 rfl (by decide) rfl ?_
  refine J_lv [2, 3, 1, 0] rfl ?_
  refine J_loop (pc := 4) (fun t1 : Int32 × Int32 × Mm => [(0, .ref 0), (1, .int a1), (2, .int t1.1), (3, .int t1.2.1)]) (fun t1 => t1.2.2) (fun _ => 46) (fun e2 => [(2, .int e2.1)]) (fun _ => []) (fun e2 => e2.2) ?_ (fun t1 k1 hBt1 hXt1 => ?_) F ((0, 0, m))
  · refine fun e2 => ?_
    refine J_iload_n 2 0 e2.1 dX8_partnersOf_46 rfl rfl ?_
    exact J_iretI dX8_partnersOf_47 rfl rfl
  · unfold b_X8_partnersOf_4
    refine J_iload_n 3 3 t1.2.1 dX8_partnersOf_4 rfl rfl ?_
    refine J_aload_n 0 0 0 dX8_partnersOf_5 rfl rfl ?_
    refine J_getR 0 8 9 P dX8_partnersOf_6 fl_8_64 rfl rfl (Nat.lt_of_lt_of_le (Nat.le_of_ble_eq_true rfl) hn) rfl ?_
    refine J_getI P 1 0 dX8_partnersOf_9 fl_8_297 (layc_Pl_0 hP) rfl (lt_Pl_0 hP hn) ?_
    refine J_icmp_ge 46 dX8_partnersOf_12 (by decide) ?_ ?_
    · exact J_lv [2] rfl (hXt1 ((t1.1, t1.2.2)))
    · refine J_iload_n 3 3 t1.2.1 dX8_partnersOf_15 rfl rfl ?_
      refine J_iload_n 1 1 a1 dX8_partnersOf_16 rfl rfl ?_
      refine J_seqJ 40 (fun y3 : Int32 × Mm => [(0, .ref 0), (1, .int a1), (2, .int y3.1), (3, .int t1.2.1)]) (fun y3 => []) (fun y3 => y3.2) (fun y3 => ?_) (fun k1 hEy3 => ?_)
      · refine J_iinc 3 3 [(3, .int (t1.2.1 + 1)), (0, .ref 0), (1, .int a1), (2, .int y3.1)] t1.2.1 (t1.2.1 + 1) dX8_partnersOf_40 rfl rfl (by decide) rfl ?_
        refine J_goto 4 dX8_partnersOf_43 (by decide) ?_
        exact J_lv [1, 2, 3, 0] rfl (hBt1 (y3.1, t1.2.1 + 1, y3.2))
      · refine J_icmp_eq 40 dX8_partnersOf_17 (by decide) ?_ ?_
        · exact J_lv [0, 1, 2, 3] rfl (hEy3 (t1.1, t1.2.2))
        · refine J_aload_n 0 0 0 dX8_partnersOf_20 rfl rfl ?_
          refine J_iconst 1 dX8_partnersOf_21 (by decide) ?_
          refine J_iload_n 3 3 t1.2.1 dX8_partnersOf_22 rfl rfl ?_
          refine J_ishl dX8_partnersOf_23 ?_
          refine J_iconst 1 dX8_partnersOf_24 (by decide) ?_
          refine J_iload_n 1 1 a1 dX8_partnersOf_25 rfl rfl ?_
          refine J_ishl dX8_partnersOf_26 ?_
          refine J_ior dX8_partnersOf_27 ?_
          refine J_callVI 0 8 1 [.int (((1 : Int32) <<< (t1.2.1 &&& 31)) ||| ((1 : Int32) <<< (a1 &&& 31)))] dX8_partnersOf_28 mv_X8_floatsWithFull mv_X8_floatsWithFullv lk_8_300 (ct_X8_floatsWithFull F hn P D T hP t1.2.2 (((1 : Int32) <<< (t1.2.1 &&& 31)) ||| ((1 : Int32) <<< (a1 &&& 31)))) rfl rfl (by decide) rfl (Nat.lt_of_lt_of_le (Nat.le_of_ble_eq_true rfl) hn) ⟨by decide, by decide⟩ (Nat.le_of_ble_eq_true rfl) (fun x4 m5 => ?_)
          refine J_if_eq 40 dX8_partnersOf_31 (by decide) ?_ ?_
          · exact J_lv [0, 1, 2, 3] rfl (hEy3 (t1.1, m5))
          · refine J_iload_n 2 2 t1.1 dX8_partnersOf_34 rfl rfl ?_
            refine J_iconst 1 dX8_partnersOf_35 (by decide) ?_
            refine J_iload_n 3 3 t1.2.1 dX8_partnersOf_36 rfl rfl ?_
            refine J_ishl dX8_partnersOf_37 ?_
            refine J_ior dX8_partnersOf_38 ?_
            refine J_let (fun x6 => ?_)
            refine J_istore_n 2 [(2, .int x6), (0, .ref 0), (1, .int a1), (3, .int t1.2.1)] dX8_partnersOf_39 rfl (by decide) rfl ?_
            exact J_lv [1, 2, 0, 3] rfl (hEy3 (x6, m5))
def b_X8_beside_44 (F : Nat) (P : Nat) (x3 : Int32) (t4 : Int32 × Mm) : Option ((Int32 × Mm) ⊕ ((Mm) ⊕ (Mm))) :=
  if (t4.2 P 0) ≤ t4.1 then (some (Sum.inr (Sum.inr (t4.2)))) else (bind2 (f_X8_partnersOf F t4.2 P t4.1) fun x7 m8 => if x7 = (x3 &&& (((1 : Int32) <<< (t4.1 &&& 31)) ^^^ ((-1) : Int32))) then (some (Sum.inl (t4.1 + 1, m8))) else (some (Sum.inr (Sum.inl m8))))
def f_X8_beside (F : Nat) (m : Mm) (P : Nat) (a1 : Int32) (a2 : Int32) : Option (Int32 × Mm) :=
  (f_X8_isHold m P a1).bind fun x1 => if x1 = 0 then (some ((-1), m)) else (if a2 < 0 then (some ((-1), m)) else (if a2 ≤ (1 : Int32) then (if a2 = 0 then (bind2 (f_X8_partnersOf F m P a1) fun x9 m10 => some (x9, m10)) else (letv (((1 : Int32) <<< ((m P 0) &&& 31)) - (1 : Int32)) fun x3 => (iter F (b_X8_beside_44 F P x3) ((0, m) : Int32 × Mm)).bind (Sum.elim (fun e5 : Mm => some (0, e5)) (fun e6 : Mm => some (1, e6))))) else (some ((-1), m))))
set_option maxHeartbeats 4000000 in
set_option maxRecDepth 100000 in
theorem ct_X8_beside (F : Nat) {n : Nat} (hn : 113 ≤ n) (P D : Nat) (T : Option Nat) (hP : isPl P) (m : Mm) (a1 : Int32) (a2 : Int32) : Ct yX8_beside cX8_beside 5 (some .int) 4 92 [.ref 0, .int a1, .int a2] n n m (RF P D T) (rI (RF P D T) (f_X8_beside F m P a1 a2)) := by
  refine Ct.ofI (own := RX8) (nm := "beside") [(0, .ref 0), (1, .int a1), (2, .int a2)] (by decide) (Nat.le_of_ble_eq_true rfl) rfl rfl rfl ?_
  unfold f_X8_beside
  refine J_aload_n 0 0 0 dX8_beside_0 rfl rfl ?_
  refine J_iload_n 1 1 a1 dX8_beside_1 rfl rfl ?_
  refine J_callVP 0 8 1 [.int a1] dX8_beside_2 mv_X8_isHold mv_X8_isHoldv lk_8_109 (ct_X8_isHold F hn P D T hP m a1) rfl rfl (by decide) rfl (Nat.lt_of_lt_of_le (Nat.le_of_ble_eq_true rfl) hn) ⟨by decide, by decide⟩ (Nat.le_of_ble_eq_true rfl) (fun x1 => ?_)
  refine J_if_eq 17 dX8_beside_5 (by decide) ?_ ?_
  · refine J_iconst (-1) dX8_beside_17 (by decide) ?_
    exact J_iretI dX8_beside_18 rfl rfl
  · refine J_iload_n 2 2 a2 dX8_beside_8 rfl rfl ?_
    refine J_if_lt 17 dX8_beside_9 (by decide) ?_ ?_
    · refine J_iconst (-1) dX8_beside_17 (by decide) ?_
      exact J_iretI dX8_beside_18 rfl rfl
    · refine J_iload_n 2 2 a2 dX8_beside_12 rfl rfl ?_
      refine J_iconst 1 dX8_beside_13 (by decide) ?_
      refine J_icmp_le 19 dX8_beside_14 (by decide) ?_ ?_
      · refine J_iload_n 2 2 a2 dX8_beside_19 rfl rfl ?_
        refine J_if_ne 29 dX8_beside_20 (by decide) ?_ ?_
        · refine J_iconst 1 dX8_beside_29 (by decide) ?_
          refine J_aload_n 0 0 0 dX8_beside_30 rfl rfl ?_
          refine J_getR 0 8 9 P dX8_beside_31 fl_8_64 rfl rfl (Nat.lt_of_lt_of_le (Nat.le_of_ble_eq_true rfl) hn) rfl ?_
          refine J_getI P 1 0 dX8_beside_34 fl_8_297 (layc_Pl_0 hP) rfl (lt_Pl_0 hP hn) ?_
          refine J_ishl dX8_beside_37 ?_
          refine J_iconst 1 dX8_beside_38 (by decide) ?_
          refine J_isub dX8_beside_39 ?_
          refine J_let (fun x3 => ?_)
          refine J_istore_n 3 [(3, .int x3), (0, .ref 0), (1, .int a1), (2, .int a2)] dX8_beside_40 rfl (by decide) rfl ?_
          refine J_iconst 0 dX8_beside_41 (by decide) ?_
          refine J_istore 4 [(4, .int 0), (3, .int x3), (0, .ref 0), (1, .int a1), (2, .int a2)] dX8_beside_42 (by decide) rfl ?_
          refine J_lv [2, 1, 0] rfl ?_
          refine J_loop (pc := 44) (fun t4 : Int32 × Mm => [(0, .ref 0), (3, .int x3), (4, .int t4.1)]) (fun t4 => t4.2) (Sum.elim (fun _ => 73) (fun _ => 81)) (Sum.elim (fun e5 : Mm => []) (fun e6 : Mm => [])) (fun _ => []) (Sum.elim (fun e5 : Mm => e5) (fun e6 : Mm => e6)) ?_ (fun t4 k1 hBt4 hXt4 => ?_) F ((0, m))
          · refine sum_all ?_ ?_
            · intro e5
              dsimp only [Sum.elim_inl, Sum.elim_inr]
              refine J_iconst 0 dX8_beside_73 (by decide) ?_
              exact J_iretI dX8_beside_74 rfl rfl
            · intro e6
              dsimp only [Sum.elim_inl, Sum.elim_inr]
              refine J_iconst 1 dX8_beside_81 (by decide) ?_
              exact J_iretI dX8_beside_82 rfl rfl
          · unfold b_X8_beside_44
            refine J_iload 4 2 t4.1 dX8_beside_44 rfl ?_
            refine J_aload_n 0 0 0 dX8_beside_46 rfl rfl ?_
            refine J_getR 0 8 9 P dX8_beside_47 fl_8_64 rfl rfl (Nat.lt_of_lt_of_le (Nat.le_of_ble_eq_true rfl) hn) rfl ?_
            refine J_getI P 1 0 dX8_beside_50 fl_8_297 (layc_Pl_0 hP) rfl (lt_Pl_0 hP hn) ?_
            refine J_icmp_ge 81 dX8_beside_53 (by decide) ?_ ?_
            · exact J_lv [] rfl (hXt4 (Sum.inr (t4.2)))
            · refine J_aload_n 0 0 0 dX8_beside_56 rfl rfl ?_
              refine J_iload 4 2 t4.1 dX8_beside_57 rfl ?_
              refine J_callVI 0 8 1 [.int t4.1] dX8_beside_59 mv_X8_partnersOf mv_X8_partnersOfv lk_8_303 (ct_X8_partnersOf F hn P D T hP t4.2 t4.1) rfl rfl (by decide) rfl (Nat.lt_of_lt_of_le (Nat.le_of_ble_eq_true rfl) hn) ⟨by decide, by decide⟩ (Nat.le_of_ble_eq_true rfl) (fun x7 m8 => ?_)
              refine J_iload_n 3 1 x3 dX8_beside_62 rfl rfl ?_
              refine J_iconst 1 dX8_beside_63 (by decide) ?_
              refine J_iload 4 2 t4.1 dX8_beside_64 rfl ?_
              refine J_ishl dX8_beside_66 ?_
              refine J_iconst (-1) dX8_beside_67 (by decide) ?_
              refine J_ixor dX8_beside_68 ?_
              refine J_iand dX8_beside_69 ?_
              refine J_icmp_eq 75 dX8_beside_70 (by decide) ?_ ?_
              · refine J_iinc 4 2 [(4, .int (t4.1 + 1)), (0, .ref 0), (3, .int x3)] t4.1 (t4.1 + 1) dX8_beside_75 rfl rfl (by decide) rfl ?_
                refine J_goto 44 dX8_beside_78 (by decide) ?_
                exact J_lv [1, 2, 0] rfl (hBt4 (t4.1 + 1, m8))
              · exact J_lv [] rfl (hXt4 (Sum.inl m8))
        · refine J_aload_n 0 0 0 dX8_beside_23 rfl rfl ?_
          refine J_iload_n 1 1 a1 dX8_beside_24 rfl rfl ?_
          refine J_callVI 0 8 1 [.int a1] dX8_beside_25 mv_X8_partnersOf mv_X8_partnersOfv lk_8_303 (ct_X8_partnersOf F hn P D T hP m a1) rfl rfl (by decide) rfl (Nat.lt_of_lt_of_le (Nat.le_of_ble_eq_true rfl) hn) ⟨by decide, by decide⟩ (Nat.le_of_ble_eq_true rfl) (fun x9 m10 => ?_)
          exact J_iretI dX8_beside_28 rfl rfl
      · refine J_iconst (-1) dX8_beside_17 (by decide) ?_
        exact J_iretI dX8_beside_18 rfl rfl
def f_X8_best (F : Nat) (m : Mm) (P : Nat) (a1 : Int32) (a2 : Int32) (a3 : Int32) : Option (Int32 × Mm) :=
  if a1 < 0 then (some ((-1), m)) else (if (3 : Int32) < a1 then (some ((-1), m)) else (if a2 < (1 : Int32) then (some ((-1), m)) else (if a2 ≤ (60 : Int32) then ((if a3 < (10 : Int32) then (some 0) else (if a1 ≤ (a3 - (10 : Int32)) then (some 0) else (some 1)) : Option (Int32)).bind fun y1 => letv (fun y2 : Unit => bind2 (f_X4_findBest F m P 4 18 a1 a2) fun x4 m5 => if x4 = 0 then (some ((-2), m5)) else (if y1 = 0 then (if a3 = 0 then (some (m5 34 0, m5)) else (some (m5 34 1, m5))) else ((f_X4_bestCode m5 (a3 - (10 : Int32))).bind fun x6 => some (x6, m5)))) fun j3 => if a3 = 0 then (j3 ()) else (if a3 = (1 : Int32) then (j3 ()) else (if y1 = 0 then (some ((-1), m)) else (j3 ())))) else (some ((-1), m)))))
set_option maxHeartbeats 4000000 in
set_option maxRecDepth 100000 in
theorem ct_X8_best (F : Nat) {n : Nat} (hn : 113 ≤ n) (P D : Nat) (T : Option Nat) (hP : isPl P) (m : Mm) (a1 : Int32) (a2 : Int32) (a3 : Int32) : Ct yX8_best cX8_best 5 (some .int) 6 143 [.ref 0, .int a1, .int a2, .int a3] n n m (RF P D T) (rI (RF P D T) (f_X8_best F m P a1 a2 a3)) := by
  refine Ct.ofI (own := RX8) (nm := "best") [(0, .ref 0), (1, .int a1), (2, .int a2), (3, .int a3)] (by decide) (Nat.le_of_ble_eq_true rfl) rfl rfl rfl ?_
  unfold f_X8_best
  refine J_iload_n 1 1 a1 dX8_best_0 rfl rfl ?_
  refine J_if_lt 20 dX8_best_1 (by decide) ?_ ?_
  · refine J_iconst (-1) dX8_best_20 (by decide) ?_
    exact J_iretI dX8_best_21 rfl rfl
  · refine J_iload_n 1 1 a1 dX8_best_4 rfl rfl ?_
    refine J_iconst 3 dX8_best_5 (by decide) ?_
    refine J_icmp_gt 20 dX8_best_6 (by decide) ?_ ?_
    · refine J_iconst (-1) dX8_best_20 (by decide) ?_
      exact J_iretI dX8_best_21 rfl rfl
    · refine J_iload_n 2 2 a2 dX8_best_9 rfl rfl ?_
      refine J_iconst 1 dX8_best_10 (by decide) ?_
      refine J_icmp_lt 20 dX8_best_11 (by decide) ?_ ?_
      · refine J_iconst (-1) dX8_best_20 (by decide) ?_
        exact J_iretI dX8_best_21 rfl rfl
      · refine J_iload_n 2 2 a2 dX8_best_14 rfl rfl ?_
        refine J_bipush 60 dX8_best_15 (by decide) ?_
        refine J_icmp_le 22 dX8_best_17 (by decide) ?_ ?_
        · refine J_iload_n 3 3 a3 dX8_best_22 rfl rfl ?_
          refine J_bipush 10 dX8_best_23 (by decide) ?_
          refine J_seqJ 41 (fun y1 : Int32 => [(0, .ref 0), (1, .int a1), (2, .int a2), (3, .int a3)]) (fun y1 => [.int y1]) (fun y1 => m) (fun y1 => ?_) (fun k1 hEy1 => ?_)
          · refine J_istore 4 [(4, .int y1), (0, .ref 0), (1, .int a1), (2, .int a2), (3, .int a3)] dX8_best_41 (by decide) rfl ?_
            refine J_iload_n 3 4 a3 dX8_best_43 rfl rfl ?_
            refine J_letJ 59 (fun y2 : Unit => [(0, .ref 0), (1, .int a1), (2, .int a2), (3, .int a3), (4, .int y1)]) (fun y2 => []) (fun y2 => m) (fun y2 => ?_) (fun j3 hEj3 => ?_)
            · refine J_aload_n 0 0 0 dX8_best_59 rfl rfl ?_
              refine J_getR 0 8 5 34 dX8_best_60 fl_8_37 rfl rfl (Nat.lt_of_lt_of_le (Nat.le_of_ble_eq_true rfl) hn) rfl ?_
              refine J_aload_n 0 0 0 dX8_best_63 rfl rfl ?_
              refine J_getR 0 8 9 P dX8_best_64 fl_8_64 rfl rfl (Nat.lt_of_lt_of_le (Nat.le_of_ble_eq_true rfl) hn) rfl ?_
              refine J_aload_n 0 0 0 dX8_best_67 rfl rfl ?_
              refine J_getR 0 8 1 4 dX8_best_68 fl_8_19 rfl rfl (Nat.lt_of_lt_of_le (Nat.le_of_ble_eq_true rfl) hn) rfl ?_
              refine J_aload_n 0 0 0 dX8_best_71 rfl rfl ?_
              refine J_getR 0 8 2 18 dX8_best_72 fl_8_23 rfl rfl (Nat.lt_of_lt_of_le (Nat.le_of_ble_eq_true rfl) hn) rfl ?_
              refine J_iload_n 1 1 a1 dX8_best_75 rfl rfl ?_
              refine J_iload_n 2 2 a2 dX8_best_76 rfl rfl ?_
              refine J_callVI 34 4 5 [.ref P, .ref 4, .ref 18, .int a1, .int a2] dX8_best_77 mv_X4_findBest mv_X4_findBestv lk_8_270 (ct_X4_findBest F hn P D T m P hP 4 (by simp [isSt]) 18 (by simp [isSt]) a1 a2) rfl rfl (by decide) rfl (Nat.lt_of_lt_of_le (Nat.le_of_ble_eq_true rfl) hn) ⟨by decide, by decide⟩ (Nat.le_of_ble_eq_true rfl) (fun x4 m5 => ?_)
              refine J_if_ne 86 dX8_best_80 (by decide) ?_ ?_
              · refine J_iload 4 4 y1 dX8_best_86 rfl ?_
                refine J_if_eq 103 dX8_best_88 (by decide) ?_ ?_
                · refine J_iload_n 3 3 a3 dX8_best_103 rfl rfl ?_
                  refine J_if_ne 117 dX8_best_104 (by decide) ?_ ?_
                  · refine J_aload_n 0 0 0 dX8_best_117 rfl rfl ?_
                    refine J_getR 0 8 5 34 dX8_best_118 fl_8_37 rfl rfl (Nat.lt_of_lt_of_le (Nat.le_of_ble_eq_true rfl) hn) rfl ?_
                    refine J_getI 34 4 1 dX8_best_121 fl_8_280 rfl rfl (Nat.lt_of_lt_of_le (Nat.le_of_ble_eq_true rfl) hn) ?_
                    exact J_iretI dX8_best_124 rfl rfl
                  · refine J_aload_n 0 0 0 dX8_best_107 rfl rfl ?_
                    refine J_getR 0 8 5 34 dX8_best_108 fl_8_37 rfl rfl (Nat.lt_of_lt_of_le (Nat.le_of_ble_eq_true rfl) hn) rfl ?_
                    refine J_getI 34 4 0 dX8_best_111 fl_8_277 rfl rfl (Nat.lt_of_lt_of_le (Nat.le_of_ble_eq_true rfl) hn) ?_
                    refine J_goto 124 dX8_best_114 (by decide) ?_
                    exact J_iretI dX8_best_124 rfl rfl
                · refine J_aload_n 0 0 0 dX8_best_91 rfl rfl ?_
                  refine J_getR 0 8 5 34 dX8_best_92 fl_8_37 rfl rfl (Nat.lt_of_lt_of_le (Nat.le_of_ble_eq_true rfl) hn) rfl ?_
                  refine J_iload_n 3 3 a3 dX8_best_95 rfl rfl ?_
                  refine J_bipush 10 dX8_best_96 (by decide) ?_
                  refine J_isub dX8_best_98 ?_
                  refine J_callVP 34 4 1 [.int (a3 - (10 : Int32))] dX8_best_99 mv_X4_bestCode mv_X4_bestCodev lk_8_274 (ct_X4_bestCode F hn P D T m5 (a3 - (10 : Int32))) rfl rfl (by decide) rfl (Nat.lt_of_lt_of_le (Nat.le_of_ble_eq_true rfl) hn) ⟨by decide, by decide⟩ (Nat.le_of_ble_eq_true rfl) (fun x6 => ?_)
                  exact J_iretI dX8_best_102 rfl rfl
              · refine J_bipush (-2) dX8_best_83 (by decide) ?_
                exact J_iretI dX8_best_85 rfl rfl
            · refine J_if_eq 59 dX8_best_44 (by decide) ?_ ?_
              · exact J_lv [1, 2, 3, 4, 0] rfl (hEj3 ())
              · refine J_iload_n 3 4 a3 dX8_best_47 rfl rfl ?_
                refine J_iconst 1 dX8_best_48 (by decide) ?_
                refine J_icmp_eq 59 dX8_best_49 (by decide) ?_ ?_
                · exact J_lv [1, 2, 3, 4, 0] rfl (hEj3 ())
                · refine J_iload 4 0 y1 dX8_best_52 rfl ?_
                  refine J_if_ne 59 dX8_best_54 (by decide) ?_ ?_
                  · exact J_lv [1, 2, 3, 4, 0] rfl (hEj3 ())
                  · refine J_iconst (-1) dX8_best_57 (by decide) ?_
                    exact J_iretI dX8_best_58 rfl rfl
          · refine J_icmp_lt 40 dX8_best_25 (by decide) ?_ ?_
            · refine J_iconst 0 dX8_best_40 (by decide) ?_
              exact J_lv [0, 1, 2, 3] rfl (hEy1 0)
            · refine J_iload_n 3 3 a3 dX8_best_28 rfl rfl ?_
              refine J_bipush 10 dX8_best_29 (by decide) ?_
              refine J_isub dX8_best_31 ?_
              refine J_iload_n 1 1 a1 dX8_best_32 rfl rfl ?_
              refine J_icmp_ge 40 dX8_best_33 (by decide) ?_ ?_
              · refine J_iconst 0 dX8_best_40 (by decide) ?_
                exact J_lv [0, 1, 2, 3] rfl (hEy1 0)
              · refine J_iconst 1 dX8_best_36 (by decide) ?_
                refine J_goto 41 dX8_best_37 (by decide) ?_
                exact J_lv [0, 1, 2, 3] rfl (hEy1 1)
        · refine J_iconst (-1) dX8_best_20 (by decide) ?_
          exact J_iretI dX8_best_21 rfl rfl

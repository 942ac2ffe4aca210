theorem fl_8_185 : FL RX8 185 1 17 := ⟨by decide, by decide, tb 321 (by decide +kernel) rfl⟩
theorem fl_8_188 : FL RX8 188 7 8 := ⟨by decide, by decide, tb 160 (by decide +kernel) rfl⟩
theorem fl_8_264 : FL RX8 264 7 3 := ⟨by decide, by decide, tb 148 (by decide +kernel) rfl⟩
theorem fl_8_350 : FL RX8 350 8 12 := ⟨by decide, by decide, tb 433 (by decide +kernel) rfl⟩
theorem fl_8_370 : FL RX8 370 5 2 := ⟨by decide, by decide, tb 384 (by decide +kernel) rfl⟩
theorem lk_8_197 : Cond.methodLink RX8 197 yX7_seeWhetherSinks ∈ TBg := tb 666 (by decide +kernel) rfl
theorem lk_8_233 : Cond.methodLink RX8 233 yX8_tell ∈ TBg := tb 761 (by decide +kernel) rfl
theorem lk_8_257 : Cond.methodLink RX8 257 yX0_failThoseToCome ∈ TBg := tb 781 (by decide +kernel) rfl
theorem lk_8_330 : Cond.methodLink RX8 330 yX6_ratesThatFit ∈ TBg := tb 938 (by decide +kernel) rfl
theorem lk_8_333 : Cond.methodLink RX8 333 yX5_renew ∈ TBg := tb 952 (by decide +kernel) rfl
theorem lk_8_346 : Cond.methodLink RX8 346 yX8_tellFrom ∈ TBg := tb 973 (by decide +kernel) rfl
theorem lk_8_364 : Cond.methodLink RX8 364 yX8_isOrder ∈ TBg := tb 765 (by decide +kernel) rfl
theorem mv_X0_failThoseToCome : MV yX0_failThoseToCome cX0_failThoseToCome 3 (some .int) 0 := ⟨tb 784 (by decide +kernel) rfl, tb 4 (by decide +kernel) rfl, by decide +kernel⟩
theorem mv_X0_failThoseToComev : Cond.instanceMethod yX0_failThoseToCome ∈ TBg ∧ Cond.selects yX0_failThoseToCome.cls yX0_failThoseToCome yX0_failThoseToCome ∈ TBg := ⟨tb 782 (by decide +kernel) rfl, tb 783 (by decide +kernel) rfl⟩
theorem mv_X5_renew : MV yX5_renew cX5_renew 3 none 2 := ⟨tb 955 (by decide +kernel) rfl, tb 9 (by decide +kernel) rfl, by decide +kernel⟩
theorem mv_X5_renewv : Cond.instanceMethod yX5_renew ∈ TBg ∧ Cond.selects yX5_renew.cls yX5_renew yX5_renew ∈ TBg := ⟨tb 953 (by decide +kernel) rfl, tb 954 (by decide +kernel) rfl⟩
theorem mv_X6_ratesThatFit : MV yX6_ratesThatFit cX6_ratesThatFit 4 (some .int) 1 := ⟨tb 941 (by decide +kernel) rfl, tb 7 (by decide +kernel) rfl, by decide +kernel⟩
theorem mv_X6_ratesThatFitv : Cond.instanceMethod yX6_ratesThatFit ∈ TBg ∧ Cond.selects yX6_ratesThatFit.cls yX6_ratesThatFit yX6_ratesThatFit ∈ TBg := ⟨tb 939 (by decide +kernel) rfl, tb 940 (by decide +kernel) rfl⟩
theorem mv_X8_isOrder : MV yX8_isOrder cX8_isOrder 4 (some .boolean) 3 := ⟨tb 768 (by decide +kernel) rfl, tb 1 (by decide +kernel) rfl, by decide +kernel⟩
theorem mv_X8_isOrderv : Cond.instanceMethod yX8_isOrder ∈ TBg ∧ Cond.selects yX8_isOrder.cls yX8_isOrder yX8_isOrder ∈ TBg := ⟨tb 767 (by decide +kernel) rfl, tbP (k := 13) 27 (by decide +kernel) rfl⟩
theorem mv_X8_tell : MV yX8_tell cX8_tell 5 (some .int) 4 := ⟨tb 764 (by decide +kernel) rfl, tb 1 (by decide +kernel) rfl, by decide +kernel⟩
theorem mv_X8_tellv : Cond.instanceMethod yX8_tell ∈ TBg ∧ Cond.selects yX8_tell.cls yX8_tell yX8_tell ∈ TBg := ⟨tb 763 (by decide +kernel) rfl, tbP (k := 13) 26 (by decide +kernel) rfl⟩
theorem mv_X8_tellFrom : MV yX8_tellFrom cX8_tellFrom 4 (some .int) 2 := ⟨tb 976 (by decide +kernel) rfl, tb 1 (by decide +kernel) rfl, by decide +kernel⟩
theorem mv_X8_tellFromv : Cond.instanceMethod yX8_tellFrom ∈ TBg ∧ Cond.selects yX8_tellFrom.cls yX8_tellFrom yX8_tellFrom ∈ TBg := ⟨tb 975 (by decide +kernel) rfl, tbP (k := 13) 42 (by decide +kernel) rfl⟩
theorem dX8_tell_0 : decode cX8_tell 0 = .ok (.iload_n 1, 1) := by decide +kernel
theorem dX8_tell_1 : decode cX8_tell 1 = .ok (.aload_n 0, 1) := by decide +kernel
theorem dX8_tell_2 : decode cX8_tell 2 = .ok (.getfield 19, 3) := by decide +kernel
theorem dX8_tell_5 : decode cX8_tell 5 = .ok (.getfield 211, 3) := by decide +kernel
theorem dX8_tell_8 : decode cX8_tell 8 = .ok (.if_icmp .lt 21, 3) := by decide +kernel
theorem dX8_tell_11 : decode cX8_tell 11 = .ok (.iload_n 1, 1) := by decide +kernel
theorem dX8_tell_12 : decode cX8_tell 12 = .ok (.sipush 999, 3) := by decide +kernel
theorem dX8_tell_15 : decode cX8_tell 15 = .ok (.if_icmp .gt 14, 3) := by decide +kernel
theorem dX8_tell_18 : decode cX8_tell 18 = .ok (.aload_n 0, 1) := by decide +kernel
theorem dX8_tell_19 : decode cX8_tell 19 = .ok (.iload_n 2, 1) := by decide +kernel
theorem dX8_tell_20 : decode cX8_tell 20 = .ok (.iload_n 3, 1) := by decide +kernel
theorem dX8_tell_21 : decode cX8_tell 21 = .ok (.iload 4, 2) := by decide +kernel
theorem dX8_tell_23 : decode cX8_tell 23 = .ok (.invokevirtual 364, 3) := by decide +kernel
theorem dX8_tell_26 : decode cX8_tell 26 = .ok (.ifCond .ne 5, 3) := by decide +kernel
theorem dX8_tell_29 : decode cX8_tell 29 = .ok (.iconst (-1), 1) := by decide +kernel
theorem dX8_tell_30 : decode cX8_tell 30 = .ok (.ireturn, 1) := by decide +kernel
theorem dX8_tell_31 : decode cX8_tell 31 = .ok (.aload_n 0, 1) := by decide +kernel
theorem dX8_tell_32 : decode cX8_tell 32 = .ok (.getfield 19, 3) := by decide +kernel
theorem dX8_tell_35 : decode cX8_tell 35 = .ok (.getfield 154, 3) := by decide +kernel
theorem dX8_tell_38 : decode cX8_tell 38 = .ok (.iload_n 1, 1) := by decide +kernel
theorem dX8_tell_39 : decode cX8_tell 39 = .ok (.iload_n 2, 1) := by decide +kernel
theorem dX8_tell_40 : decode cX8_tell 40 = .ok (.iload_n 3, 1) := by decide +kernel
theorem dX8_tell_41 : decode cX8_tell 41 = .ok (.iload 4, 2) := by decide +kernel
theorem dX8_tell_43 : decode cX8_tell 43 = .ok (.invokevirtual 368, 3) := by decide +kernel
theorem dX8_tell_46 : decode cX8_tell 46 = .ok (.ireturn, 1) := by decide +kernel
theorem dX8_order_0 : decode cX8_order 0 = .ok (.aload_n 0, 1) := by decide +kernel
theorem dX8_order_1 : decode cX8_order 1 = .ok (.iload_n 1, 1) := by decide +kernel
theorem dX8_order_2 : decode cX8_order 2 = .ok (.iload_n 2, 1) := by decide +kernel
theorem dX8_order_3 : decode cX8_order 3 = .ok (.iload_n 3, 1) := by decide +kernel
theorem dX8_order_4 : decode cX8_order 4 = .ok (.iload 4, 2) := by decide +kernel
theorem dX8_order_6 : decode cX8_order 6 = .ok (.invokevirtual 233, 3) := by decide +kernel
theorem dX8_order_9 : decode cX8_order 9 = .ok (.ireturn, 1) := by decide +kernel
theorem dX8_pump_0 : decode cX8_pump 0 = .ok (.aload_n 0, 1) := by decide +kernel
theorem dX8_pump_1 : decode cX8_pump 1 = .ok (.iload_n 1, 1) := by decide +kernel
theorem dX8_pump_2 : decode cX8_pump 2 = .ok (.invokevirtual 182, 3) := by decide +kernel
theorem dX8_pump_5 : decode cX8_pump 5 = .ok (.ifCond .ne 5, 3) := by decide +kernel
theorem dX8_pump_8 : decode cX8_pump 8 = .ok (.iconst (-1), 1) := by decide +kernel
theorem dX8_pump_9 : decode cX8_pump 9 = .ok (.ireturn, 1) := by decide +kernel
theorem dX8_pump_10 : decode cX8_pump 10 = .ok (.iload_n 2, 1) := by decide +kernel
theorem dX8_pump_11 : decode cX8_pump 11 = .ok (.lookupswitch 45 #[(0, 25), (1, 35)], 25) := by decide +kernel
theorem dX8_pump_36 : decode cX8_pump 36 = .ok (.aload_n 0, 1) := by decide +kernel
theorem dX8_pump_37 : decode cX8_pump 37 = .ok (.getfield 64, 3) := by decide +kernel
theorem dX8_pump_40 : decode cX8_pump 40 = .ok (.getfield 185, 3) := by decide +kernel
theorem dX8_pump_43 : decode cX8_pump 43 = .ok (.iload_n 1, 1) := by decide +kernel
theorem dX8_pump_44 : decode cX8_pump 44 = .ok (.iaload, 1) := by decide +kernel
theorem dX8_pump_45 : decode cX8_pump 45 = .ok (.ireturn, 1) := by decide +kernel
theorem dX8_pump_46 : decode cX8_pump 46 = .ok (.aload_n 0, 1) := by decide +kernel
theorem dX8_pump_47 : decode cX8_pump 47 = .ok (.getfield 19, 3) := by decide +kernel
theorem dX8_pump_50 : decode cX8_pump 50 = .ok (.getfield 188, 3) := by decide +kernel
theorem dX8_pump_53 : decode cX8_pump 53 = .ok (.iload_n 1, 1) := by decide +kernel
theorem dX8_pump_54 : decode cX8_pump 54 = .ok (.iaload, 1) := by decide +kernel
theorem dX8_pump_55 : decode cX8_pump 55 = .ok (.ireturn, 1) := by decide +kernel
theorem dX8_pump_56 : decode cX8_pump 56 = .ok (.iconst (-1), 1) := by decide +kernel
theorem dX8_pump_57 : decode cX8_pump 57 = .ok (.ireturn, 1) := by decide +kernel
theorem dX8_put_0 : decode cX8_put 0 = .ok (.aload_n 0, 1) := by decide +kernel
theorem dX8_put_1 : decode cX8_put 1 = .ok (.iload_n 1, 1) := by decide +kernel
theorem dX8_put_2 : decode cX8_put 2 = .ok (.invokevirtual 109, 3) := by decide +kernel
theorem dX8_put_5 : decode cX8_put 5 = .ok (.ifCond .eq 20, 3) := by decide +kernel
theorem dX8_put_8 : decode cX8_put 8 = .ok (.iload_n 2, 1) := by decide +kernel
theorem dX8_put_9 : decode cX8_put 9 = .ok (.ifCond .lt 16, 3) := by decide +kernel
theorem dX8_put_12 : decode cX8_put 12 = .ok (.iload_n 2, 1) := by decide +kernel
theorem dX8_put_13 : decode cX8_put 13 = .ok (.aload_n 0, 1) := by decide +kernel
theorem dX8_put_14 : decode cX8_put 14 = .ok (.getfield 64, 3) := by decide +kernel
theorem dX8_put_17 : decode cX8_put 17 = .ok (.getfield 113, 3) := by decide +kernel
theorem dX8_put_20 : decode cX8_put 20 = .ok (.iload_n 1, 1) := by decide +kernel
theorem dX8_put_21 : decode cX8_put 21 = .ok (.iaload, 1) := by decide +kernel
theorem dX8_put_22 : decode cX8_put 22 = .ok (.if_icmp .le 5, 3) := by decide +kernel
theorem dX8_put_25 : decode cX8_put 25 = .ok (.iconst (-1), 1) := by decide +kernel
theorem dX8_put_26 : decode cX8_put 26 = .ok (.ireturn, 1) := by decide +kernel
theorem dX8_put_27 : decode cX8_put 27 = .ok (.aload_n 0, 1) := by decide +kernel
theorem dX8_put_28 : decode cX8_put 28 = .ok (.getfield 19, 3) := by decide +kernel
theorem dX8_put_31 : decode cX8_put 31 = .ok (.getfield 194, 3) := by decide +kernel
theorem dX8_put_34 : decode cX8_put 34 = .ok (.ifCond .eq 6, 3) := by decide +kernel
theorem dX8_put_37 : decode cX8_put 37 = .ok (.bipush (-2), 2) := by decide +kernel
theorem dX8_put_39 : decode cX8_put 39 = .ok (.ireturn, 1) := by decide +kernel
theorem dX8_put_40 : decode cX8_put 40 = .ok (.aload_n 0, 1) := by decide +kernel
theorem dX8_put_41 : decode cX8_put 41 = .ok (.getfield 19, 3) := by decide +kernel
theorem dX8_put_44 : decode cX8_put 44 = .ok (.getfield 123, 3) := by decide +kernel
theorem dX8_put_47 : decode cX8_put 47 = .ok (.iload_n 1, 1) := by decide +kernel
theorem dX8_put_48 : decode cX8_put 48 = .ok (.iaload, 1) := by decide +kernel
theorem dX8_put_49 : decode cX8_put 49 = .ok (.istore_n 3, 1) := by decide +kernel
theorem dX8_put_50 : decode cX8_put 50 = .ok (.aload_n 0, 1) := by decide +kernel
theorem dX8_put_51 : decode cX8_put 51 = .ok (.getfield 19, 3) := by decide +kernel
theorem dX8_put_54 : decode cX8_put 54 = .ok (.getfield 123, 3) := by decide +kernel
theorem dX8_put_57 : decode cX8_put 57 = .ok (.iload_n 1, 1) := by decide +kernel
theorem dX8_put_58 : decode cX8_put 58 = .ok (.iload_n 2, 1) := by decide +kernel
theorem dX8_put_59 : decode cX8_put 59 = .ok (.iastore, 1) := by decide +kernel
theorem dX8_put_60 : decode cX8_put 60 = .ok (.aload_n 0, 1) := by decide +kernel
theorem dX8_put_61 : decode cX8_put 61 = .ok (.getfield 19, 3) := by decide +kernel
theorem dX8_put_64 : decode cX8_put 64 = .ok (.aload_n 0, 1) := by decide +kernel
theorem dX8_put_65 : decode cX8_put 65 = .ok (.getfield 64, 3) := by decide +kernel
theorem dX8_put_68 : decode cX8_put 68 = .ok (.invokevirtual 197, 3) := by decide +kernel
theorem dX8_put_71 : decode cX8_put 71 = .ok (.aload_n 0, 1) := by decide +kernel
theorem dX8_put_72 : decode cX8_put 72 = .ok (.getfield 37, 3) := by decide +kernel
theorem dX8_put_75 : decode cX8_put 75 = .ok (.invokevirtual 103, 3) := by decide +kernel
theorem dX8_put_78 : decode cX8_put 78 = .ok (.iload_n 3, 1) := by decide +kernel
theorem dX8_put_79 : decode cX8_put 79 = .ok (.ireturn, 1) := by decide +kernel
theorem dX8_rates_0 : decode cX8_rates 0 = .ok (.aload_n 0, 1) := by decide +kernel
theorem dX8_rates_1 : decode cX8_rates 1 = .ok (.iload_n 1, 1) := by decide +kernel
theorem dX8_rates_2 : decode cX8_rates 2 = .ok (.invokevirtual 109, 3) := by decide +kernel
theorem dX8_rates_5 : decode cX8_rates 5 = .ok (.ifCond .eq 22, 3) := by decide +kernel
theorem dX8_rates_8 : decode cX8_rates 8 = .ok (.aload_n 0, 1) := by decide +kernel
theorem dX8_rates_9 : decode cX8_rates 9 = .ok (.getfield 51, 3) := by decide +kernel
theorem dX8_rates_12 : decode cX8_rates 12 = .ok (.aload_n 0, 1) := by decide +kernel
theorem dX8_rates_13 : decode cX8_rates 13 = .ok (.getfield 64, 3) := by decide +kernel
theorem dX8_rates_16 : decode cX8_rates 16 = .ok (.getfield 113, 3) := by decide +kernel
theorem dX8_rates_19 : decode cX8_rates 19 = .ok (.iload_n 1, 1) := by decide +kernel
theorem dX8_rates_20 : decode cX8_rates 20 = .ok (.iaload, 1) := by decide +kernel
theorem dX8_rates_21 : decode cX8_rates 21 = .ok (.invokevirtual 330, 3) := by decide +kernel
theorem dX8_rates_24 : decode cX8_rates 24 = .ok (.goto 4, 3) := by decide +kernel
theorem dX8_rates_27 : decode cX8_rates 27 = .ok (.iconst (-1), 1) := by decide +kernel
theorem dX8_rates_28 : decode cX8_rates 28 = .ok (.ireturn, 1) := by decide +kernel
theorem dX8_tellFrom_0 : decode cX8_tellFrom 0 = .ok (.aload_n 0, 1) := by decide +kernel
theorem dX8_tellFrom_1 : decode cX8_tellFrom 1 = .ok (.getfield 19, 3) := by decide +kernel
theorem dX8_tellFrom_4 : decode cX8_tellFrom 4 = .ok (.getfield 211, 3) := by decide +kernel
theorem dX8_tellFrom_7 : decode cX8_tellFrom 7 = .ok (.aload_n 1, 1) := by decide +kernel
theorem dX8_tellFrom_8 : decode cX8_tellFrom 8 = .ok (.getfield 370, 3) := by decide +kernel
theorem dX8_tellFrom_11 : decode cX8_tellFrom 11 = .ok (.iload_n 2, 1) := by decide +kernel
theorem dX8_tellFrom_12 : decode cX8_tellFrom 12 = .ok (.iaload, 1) := by decide +kernel
theorem dX8_tellFrom_13 : decode cX8_tellFrom 13 = .ok (.iadd, 1) := by decide +kernel
theorem dX8_tellFrom_14 : decode cX8_tellFrom 14 = .ok (.istore_n 3, 1) := by decide +kernel
theorem dX8_tellFrom_15 : decode cX8_tellFrom 15 = .ok (.aload_n 0, 1) := by decide +kernel
theorem dX8_tellFrom_16 : decode cX8_tellFrom 16 = .ok (.iload_n 3, 1) := by decide +kernel
theorem dX8_tellFrom_17 : decode cX8_tellFrom 17 = .ok (.aload_n 1, 1) := by decide +kernel
theorem dX8_tellFrom_18 : decode cX8_tellFrom 18 = .ok (.getfield 370, 3) := by decide +kernel
theorem dX8_tellFrom_21 : decode cX8_tellFrom 21 = .ok (.iload_n 2, 1) := by decide +kernel
theorem dX8_tellFrom_22 : decode cX8_tellFrom 22 = .ok (.iconst 1, 1) := by decide +kernel
theorem dX8_tellFrom_23 : decode cX8_tellFrom 23 = .ok (.iadd, 1) := by decide +kernel
theorem dX8_tellFrom_24 : decode cX8_tellFrom 24 = .ok (.iaload, 1) := by decide +kernel
theorem dX8_tellFrom_25 : decode cX8_tellFrom 25 = .ok (.aload_n 1, 1) := by decide +kernel
theorem dX8_tellFrom_26 : decode cX8_tellFrom 26 = .ok (.getfield 370, 3) := by decide +kernel
theorem dX8_tellFrom_29 : decode cX8_tellFrom 29 = .ok (.iload_n 2, 1) := by decide +kernel
theorem dX8_tellFrom_30 : decode cX8_tellFrom 30 = .ok (.iconst 2, 1) := by decide +kernel
theorem dX8_tellFrom_31 : decode cX8_tellFrom 31 = .ok (.iadd, 1) := by decide +kernel
theorem dX8_tellFrom_32 : decode cX8_tellFrom 32 = .ok (.iaload, 1) := by decide +kernel
theorem dX8_tellFrom_33 : decode cX8_tellFrom 33 = .ok (.aload_n 1, 1) := by decide +kernel
theorem dX8_tellFrom_34 : decode cX8_tellFrom 34 = .ok (.getfield 370, 3) := by decide +kernel
theorem dX8_tellFrom_37 : decode cX8_tellFrom 37 = .ok (.iload_n 2, 1) := by decide +kernel
theorem dX8_tellFrom_38 : decode cX8_tellFrom 38 = .ok (.iconst 3, 1) := by decide +kernel
theorem dX8_tellFrom_39 : decode cX8_tellFrom 39 = .ok (.iadd, 1) := by decide +kernel
theorem dX8_tellFrom_40 : decode cX8_tellFrom 40 = .ok (.iaload, 1) := by decide +kernel
theorem dX8_tellFrom_41 : decode cX8_tellFrom 41 = .ok (.invokevirtual 233, 3) := by decide +kernel
theorem dX8_tellFrom_44 : decode cX8_tellFrom 44 = .ok (.ireturn, 1) := by decide +kernel
theorem dX8_read_0 : decode cX8_read 0 = .ok (.iload_n 1, 1) := by decide +kernel
theorem dX8_read_1 : decode cX8_read 1 = .ok (.ifCond .lt 29, 3) := by decide +kernel
theorem dX8_read_4 : decode cX8_read 4 = .ok (.iload_n 1, 1) := by decide +kernel
theorem dX8_read_5 : decode cX8_read 5 = .ok (.iconst 4, 1) := by decide +kernel
theorem dX8_read_6 : decode cX8_read 6 = .ok (.if_icmp .ge 24, 3) := by decide +kernel
theorem dX8_read_9 : decode cX8_read 9 = .ok (.iload_n 2, 1) := by decide +kernel
theorem dX8_read_10 : decode cX8_read 10 = .ok (.ifCond .lt 20, 3) := by decide +kernel
theorem dX8_read_13 : decode cX8_read 13 = .ok (.iload_n 2, 1) := by decide +kernel
theorem dX8_read_14 : decode cX8_read 14 = .ok (.iconst 3, 1) := by decide +kernel
theorem dX8_read_15 : decode cX8_read 15 = .ok (.if_icmp .ge 15, 3) := by decide +kernel
theorem dX8_read_18 : decode cX8_read 18 = .ok (.iload 4, 2) := by decide +kernel
theorem dX8_read_20 : decode cX8_read 20 = .ok (.ifCond .lt 10, 3) := by decide +kernel
theorem dX8_read_23 : decode cX8_read 23 = .ok (.iload 4, 2) := by decide +kernel
theorem dX8_read_25 : decode cX8_read 25 = .ok (.bipush 10, 2) := by decide +kernel
theorem dX8_read_27 : decode cX8_read 27 = .ok (.if_icmp .le 5, 3) := by decide +kernel
theorem dX8_read_30 : decode cX8_read 30 = .ok (.iconst (-1), 1) := by decide +kernel
theorem dX8_read_31 : decode cX8_read 31 = .ok (.ireturn, 1) := by decide +kernel
theorem dX8_read_32 : decode cX8_read 32 = .ok (.aload_n 0, 1) := by decide +kernel
theorem dX8_read_33 : decode cX8_read 33 = .ok (.getfield 57, 3) := by decide +kernel
theorem dX8_read_36 : decode cX8_read 36 = .ok (.iload_n 1, 1) := by decide +kernel
theorem dX8_read_37 : decode cX8_read 37 = .ok (.aaload, 1) := by decide +kernel
theorem dX8_read_38 : decode cX8_read 38 = .ok (.astore 5, 2) := by decide +kernel
theorem dX8_read_40 : decode cX8_read 40 = .ok (.aload_n 0, 1) := by decide +kernel
theorem dX8_read_41 : decode cX8_read 41 = .ok (.getfield 19, 3) := by decide +kernel
theorem dX8_read_44 : decode cX8_read 44 = .ok (.getfield 154, 3) := by decide +kernel
theorem dX8_read_47 : decode cX8_read 47 = .ok (.getfield 237, 3) := by decide +kernel
theorem dX8_read_50 : decode cX8_read 50 = .ok (.istore 6, 2) := by decide +kernel
theorem dX8_read_52 : decode cX8_read 52 = .ok (.iconst 0, 1) := by decide +kernel
theorem dX8_read_53 : decode cX8_read 53 = .ok (.istore 7, 2) := by decide +kernel
theorem dX8_read_55 : decode cX8_read 55 = .ok (.iconst 0, 1) := by decide +kernel
theorem dX8_read_56 : decode cX8_read 56 = .ok (.istore 8, 2) := by decide +kernel
theorem dX8_read_58 : decode cX8_read 58 = .ok (.iload 8, 2) := by decide +kernel
theorem dX8_read_60 : decode cX8_read 60 = .ok (.iload 4, 2) := by decide +kernel
theorem dX8_read_62 : decode cX8_read 62 = .ok (.if_icmp .ge 80, 3) := by decide +kernel
theorem dX8_read_65 : decode cX8_read 65 = .ok (.aload 5, 2) := by decide +kernel
theorem dX8_read_67 : decode cX8_read 67 = .ok (.iload_n 2, 1) := by decide +kernel
theorem dX8_read_68 : decode cX8_read 68 = .ok (.iload_n 3, 1) := by decide +kernel
theorem dX8_read_69 : decode cX8_read 69 = .ok (.iconst 4, 1) := by decide +kernel
theorem dX8_read_70 : decode cX8_read 70 = .ok (.iload 8, 2) := by decide +kernel
theorem dX8_read_72 : decode cX8_read 72 = .ok (.imul, 1) := by decide +kernel
theorem dX8_read_73 : decode cX8_read 73 = .ok (.iadd, 1) := by decide +kernel
theorem dX8_read_74 : decode cX8_read 74 = .ok (.iconst 4, 1) := by decide +kernel
theorem dX8_read_75 : decode cX8_read 75 = .ok (.invokevirtual 340, 3) := by decide +kernel
theorem dX8_read_78 : decode cX8_read 78 = .ok (.istore 7, 2) := by decide +kernel
theorem dX8_read_80 : decode cX8_read 80 = .ok (.iload 7, 2) := by decide +kernel
theorem dX8_read_82 : decode cX8_read 82 = .ok (.ifCond .eq 6, 3) := by decide +kernel
theorem dX8_read_85 : decode cX8_read 85 = .ok (.goto 57, 3) := by decide +kernel
theorem dX8_read_88 : decode cX8_read 88 = .ok (.aload_n 0, 1) := by decide +kernel
theorem dX8_read_89 : decode cX8_read 89 = .ok (.aload 5, 2) := by decide +kernel
theorem dX8_read_91 : decode cX8_read 91 = .ok (.iload_n 3, 1) := by decide +kernel
theorem dX8_read_92 : decode cX8_read 92 = .ok (.iconst 4, 1) := by decide +kernel
theorem dX8_read_93 : decode cX8_read 93 = .ok (.iload 8, 2) := by decide +kernel
theorem dX8_read_95 : decode cX8_read 95 = .ok (.imul, 1) := by decide +kernel
theorem dX8_read_96 : decode cX8_read 96 = .ok (.iadd, 1) := by decide +kernel
theorem dX8_read_97 : decode cX8_read 97 = .ok (.invokevirtual 346, 3) := by decide +kernel
theorem dX8_read_100 : decode cX8_read 100 = .ok (.istore 9, 2) := by decide +kernel
theorem dX8_read_102 : decode cX8_read 102 = .ok (.iload 9, 2) := by decide +kernel
theorem dX8_read_104 : decode cX8_read 104 = .ok (.ifCond .ge 32, 3) := by decide +kernel
theorem dX8_read_107 : decode cX8_read 107 = .ok (.aload_n 0, 1) := by decide +kernel
theorem dX8_read_108 : decode cX8_read 108 = .ok (.getfield 19, 3) := by decide +kernel
theorem dX8_read_111 : decode cX8_read 111 = .ok (.getfield 154, 3) := by decide +kernel
theorem dX8_read_114 : decode cX8_read 114 = .ok (.iload 6, 2) := by decide +kernel
theorem dX8_read_116 : decode cX8_read 116 = .ok (.putfield 237, 3) := by decide +kernel
theorem dX8_read_119 : decode cX8_read 119 = .ok (.iload 9, 2) := by decide +kernel
theorem dX8_read_121 : decode cX8_read 121 = .ok (.iconst (-1), 1) := by decide +kernel
theorem dX8_read_122 : decode cX8_read 122 = .ok (.if_icmp .ne 11, 3) := by decide +kernel
theorem dX8_read_125 : decode cX8_read 125 = .ok (.bipush (-20), 2) := by decide +kernel
theorem dX8_read_127 : decode cX8_read 127 = .ok (.iload 8, 2) := by decide +kernel
theorem dX8_read_129 : decode cX8_read 129 = .ok (.isub, 1) := by decide +kernel
theorem dX8_read_130 : decode cX8_read 130 = .ok (.goto 5, 3) := by decide +kernel
theorem dX8_read_133 : decode cX8_read 133 = .ok (.iload 9, 2) := by decide +kernel
theorem dX8_read_135 : decode cX8_read 135 = .ok (.ireturn, 1) := by decide +kernel
theorem dX8_read_136 : decode cX8_read 136 = .ok (.iinc 8 1, 3) := by decide +kernel
theorem dX8_read_139 : decode cX8_read 139 = .ok (.goto (-81), 3) := by decide +kernel
theorem dX8_read_142 : decode cX8_read 142 = .ok (.aload_n 0, 1) := by decide +kernel
theorem dX8_read_143 : decode cX8_read 143 = .ok (.iload 7, 2) := by decide +kernel
theorem dX8_read_145 : decode cX8_read 145 = .ok (.putfield 350, 3) := by decide +kernel
theorem dX8_read_148 : decode cX8_read 148 = .ok (.iload 8, 2) := by decide +kernel
theorem dX8_read_150 : decode cX8_read 150 = .ok (.ireturn, 1) := by decide +kernel
theorem dX8_recall_0 : decode cX8_recall 0 = .ok (.aload_n 0, 1) := by decide +kernel
theorem dX8_recall_1 : decode cX8_recall 1 = .ok (.getfield 19, 3) := by decide +kernel
theorem dX8_recall_4 : decode cX8_recall 4 = .ok (.getfield 154, 3) := by decide +kernel
theorem dX8_recall_7 : decode cX8_recall 7 = .ok (.invokevirtual 257, 3) := by decide +kernel
theorem dX8_recall_10 : decode cX8_recall 10 = .ok (.ireturn, 1) := by decide +kernel
theorem dX8_rule_0 : decode cX8_rule 0 = .ok (.iload_n 1, 1) := by decide +kernel
theorem dX8_rule_1 : decode cX8_rule 1 = .ok (.ifCond .lt 8, 3) := by decide +kernel
theorem dX8_rule_4 : decode cX8_rule 4 = .ok (.iload_n 1, 1) := by decide +kernel
theorem dX8_rule_5 : decode cX8_rule 5 = .ok (.iconst 5, 1) := by decide +kernel
theorem dX8_rule_6 : decode cX8_rule 6 = .ok (.if_icmp .lt 7, 3) := by decide +kernel
theorem dX8_rule_9 : decode cX8_rule 9 = .ok (.iconst (-1), 1) := by decide +kernel
theorem dX8_rule_10 : decode cX8_rule 10 = .ok (.goto 12, 3) := by decide +kernel
theorem dX8_rule_13 : decode cX8_rule 13 = .ok (.aload_n 0, 1) := by decide +kernel
theorem dX8_rule_14 : decode cX8_rule 14 = .ok (.getfield 64, 3) := by decide +kernel
theorem dX8_rule_17 : decode cX8_rule 17 = .ok (.getfield 191, 3) := by decide +kernel
theorem dX8_rule_20 : decode cX8_rule 20 = .ok (.iload_n 1, 1) := by decide +kernel
theorem dX8_rule_21 : decode cX8_rule 21 = .ok (.iaload, 1) := by decide +kernel
theorem dX8_rule_22 : decode cX8_rule 22 = .ok (.ireturn, 1) := by decide +kernel
theorem dX8_run_0 : decode cX8_run 0 = .ok (.iload_n 1, 1) := by decide +kernel
theorem dX8_run_1 : decode cX8_run 1 = .ok (.iconst 1, 1) := by decide +kernel
theorem dX8_run_2 : decode cX8_run 2 = .ok (.if_icmp .lt 19, 3) := by decide +kernel
theorem dX8_run_5 : decode cX8_run 5 = .ok (.iload_n 1, 1) := by decide +kernel
theorem dX8_run_6 : decode cX8_run 6 = .ok (.bipush 120, 2) := by decide +kernel
theorem dX8_run_8 : decode cX8_run 8 = .ok (.if_icmp .gt 13, 3) := by decide +kernel
theorem dX8_run_11 : decode cX8_run 11 = .ok (.iload_n 2, 1) := by decide +kernel
theorem dX8_run_12 : decode cX8_run 12 = .ok (.ifCond .lt 9, 3) := by decide +kernel
theorem dX8_run_15 : decode cX8_run 15 = .ok (.iload_n 2, 1) := by decide +kernel
theorem dX8_run_16 : decode cX8_run 16 = .ok (.bipush 6, 2) := by decide +kernel
theorem dX8_run_18 : decode cX8_run 18 = .ok (.if_icmp .le 5, 3) := by decide +kernel
theorem dX8_run_21 : decode cX8_run 21 = .ok (.iconst (-1), 1) := by decide +kernel
theorem dX8_run_22 : decode cX8_run 22 = .ok (.ireturn, 1) := by decide +kernel
theorem dX8_run_23 : decode cX8_run 23 = .ok (.aload_n 0, 1) := by decide +kernel
theorem dX8_run_24 : decode cX8_run 24 = .ok (.getfield 23, 3) := by decide +kernel
theorem dX8_run_27 : decode cX8_run 27 = .ok (.aload_n 0, 1) := by decide +kernel
theorem dX8_run_28 : decode cX8_run 28 = .ok (.getfield 19, 3) := by decide +kernel
theorem dX8_run_31 : decode cX8_run 31 = .ok (.invokevirtual 229, 3) := by decide +kernel
theorem dX8_run_34 : decode cX8_run 34 = .ok (.aload_n 0, 1) := by decide +kernel
theorem dX8_run_35 : decode cX8_run 35 = .ok (.getfield 23, 3) := by decide +kernel
theorem dX8_run_38 : decode cX8_run 38 = .ok (.aload_n 0, 1) := by decide +kernel
theorem dX8_run_39 : decode cX8_run 39 = .ok (.getfield 64, 3) := by decide +kernel
theorem dX8_run_42 : decode cX8_run 42 = .ok (.iload_n 1, 1) := by decide +kernel
theorem dX8_run_43 : decode cX8_run 43 = .ok (.invokevirtual 261, 3) := by decide +kernel
theorem dX8_run_46 : decode cX8_run 46 = .ok (.istore_n 3, 1) := by decide +kernel
theorem dX8_run_47 : decode cX8_run 47 = .ok (.aload_n 0, 1) := by decide +kernel
theorem dX8_run_48 : decode cX8_run 48 = .ok (.getfield 44, 3) := by decide +kernel
theorem dX8_run_51 : decode cX8_run 51 = .ok (.aload_n 0, 1) := by decide +kernel
theorem dX8_run_52 : decode cX8_run 52 = .ok (.getfield 64, 3) := by decide +kernel
theorem dX8_run_55 : decode cX8_run 55 = .ok (.aload_n 0, 1) := by decide +kernel
theorem dX8_run_56 : decode cX8_run 56 = .ok (.getfield 23, 3) := by decide +kernel
theorem dX8_run_59 : decode cX8_run 59 = .ok (.getfield 123, 3) := by decide +kernel
theorem dX8_run_62 : decode cX8_run 62 = .ok (.iconst 0, 1) := by decide +kernel
theorem dX8_run_63 : decode cX8_run 63 = .ok (.invokevirtual 207, 3) := by decide +kernel
theorem dX8_run_66 : decode cX8_run 66 = .ok (.iload_n 2, 1) := by decide +kernel
theorem dX8_run_67 : decode cX8_run 67 = .ok (.tableswitch 95 0 5 #[37, 39, 47, 55, 63, 71], 37) := by decide +kernel
theorem dX8_run_104 : decode cX8_run 104 = .ok (.iload_n 3, 1) := by decide +kernel
theorem dX8_run_105 : decode cX8_run 105 = .ok (.ireturn, 1) := by decide +kernel
theorem dX8_run_106 : decode cX8_run 106 = .ok (.aload_n 0, 1) := by decide +kernel
theorem dX8_run_107 : decode cX8_run 107 = .ok (.getfield 23, 3) := by decide +kernel
theorem dX8_run_110 : decode cX8_run 110 = .ok (.getfield 194, 3) := by decide +kernel
theorem dX8_run_113 : decode cX8_run 113 = .ok (.ireturn, 1) := by decide +kernel
theorem dX8_run_114 : decode cX8_run 114 = .ok (.aload_n 0, 1) := by decide +kernel
theorem dX8_run_115 : decode cX8_run 115 = .ok (.getfield 44, 3) := by decide +kernel
theorem dX8_run_118 : decode cX8_run 118 = .ok (.getfield 214, 3) := by decide +kernel
theorem dX8_run_121 : decode cX8_run 121 = .ok (.ireturn, 1) := by decide +kernel
theorem dX8_run_122 : decode cX8_run 122 = .ok (.aload_n 0, 1) := by decide +kernel
theorem dX8_run_123 : decode cX8_run 123 = .ok (.getfield 44, 3) := by decide +kernel
theorem dX8_run_126 : decode cX8_run 126 = .ok (.getfield 217, 3) := by decide +kernel
theorem dX8_run_129 : decode cX8_run 129 = .ok (.ireturn, 1) := by decide +kernel
theorem dX8_run_130 : decode cX8_run 130 = .ok (.aload_n 0, 1) := by decide +kernel
theorem dX8_run_131 : decode cX8_run 131 = .ok (.getfield 44, 3) := by decide +kernel
theorem dX8_run_134 : decode cX8_run 134 = .ok (.getfield 220, 3) := by decide +kernel
theorem dX8_run_137 : decode cX8_run 137 = .ok (.ireturn, 1) := by decide +kernel
theorem dX8_run_138 : decode cX8_run 138 = .ok (.aload_n 0, 1) := by decide +kernel
theorem dX8_run_139 : decode cX8_run 139 = .ok (.getfield 23, 3) := by decide +kernel
theorem dX8_run_142 : decode cX8_run 142 = .ok (.getfield 154, 3) := by decide +kernel
theorem dX8_run_145 : decode cX8_run 145 = .ok (.iconst 3, 1) := by decide +kernel
theorem dX8_run_146 : decode cX8_run 146 = .ok (.invokevirtual 226, 3) := by decide +kernel
theorem dX8_run_149 : decode cX8_run 149 = .ok (.aload_n 0, 1) := by decide +kernel
theorem dX8_run_150 : decode cX8_run 150 = .ok (.getfield 19, 3) := by decide +kernel
theorem dX8_run_153 : decode cX8_run 153 = .ok (.getfield 154, 3) := by decide +kernel
theorem dX8_run_156 : decode cX8_run 156 = .ok (.iconst 3, 1) := by decide +kernel
theorem dX8_run_157 : decode cX8_run 157 = .ok (.invokevirtual 226, 3) := by decide +kernel
theorem dX8_run_160 : decode cX8_run 160 = .ok (.isub, 1) := by decide +kernel
theorem dX8_run_161 : decode cX8_run 161 = .ok (.ireturn, 1) := by decide +kernel
theorem dX8_run_162 : decode cX8_run 162 = .ok (.aload_n 0, 1) := by decide +kernel
theorem dX8_run_163 : decode cX8_run 163 = .ok (.getfield 23, 3) := by decide +kernel
theorem dX8_run_166 : decode cX8_run 166 = .ok (.getfield 264, 3) := by decide +kernel
theorem dX8_run_169 : decode cX8_run 169 = .ok (.ireturn, 1) := by decide +kernel
theorem dX8_sheet_0 : decode cX8_sheet 0 = .ok (.iload_n 1, 1) := by decide +kernel
theorem dX8_sheet_1 : decode cX8_sheet 1 = .ok (.ifCond .lt 23, 3) := by decide +kernel
theorem dX8_sheet_4 : decode cX8_sheet 4 = .ok (.iload_n 1, 1) := by decide +kernel
theorem dX8_sheet_5 : decode cX8_sheet 5 = .ok (.iconst 4, 1) := by decide +kernel
theorem dX8_sheet_6 : decode cX8_sheet 6 = .ok (.if_icmp .ge 18, 3) := by decide +kernel
theorem dX8_sheet_9 : decode cX8_sheet 9 = .ok (.iload_n 2, 1) := by decide +kernel
theorem dX8_sheet_10 : decode cX8_sheet 10 = .ok (.ifCond .lt 14, 3) := by decide +kernel
theorem dX8_sheet_13 : decode cX8_sheet 13 = .ok (.iload_n 2, 1) := by decide +kernel
theorem dX8_sheet_14 : decode cX8_sheet 14 = .ok (.iconst 3, 1) := by decide +kernel
theorem dX8_sheet_15 : decode cX8_sheet 15 = .ok (.if_icmp .ge 9, 3) := by decide +kernel
theorem dX8_sheet_18 : decode cX8_sheet 18 = .ok (.iload_n 3, 1) := by decide +kernel
theorem dX8_sheet_19 : decode cX8_sheet 19 = .ok (.bipush 40, 2) := by decide +kernel
theorem dX8_sheet_21 : decode cX8_sheet 21 = .ok (.if_icmp .le 5, 3) := by decide +kernel
theorem dX8_sheet_24 : decode cX8_sheet 24 = .ok (.iconst (-1), 1) := by decide +kernel
theorem dX8_sheet_25 : decode cX8_sheet 25 = .ok (.ireturn, 1) := by decide +kernel
theorem dX8_sheet_26 : decode cX8_sheet 26 = .ok (.iload_n 3, 1) := by decide +kernel
theorem dX8_sheet_27 : decode cX8_sheet 27 = .ok (.ifCond .ge 6, 3) := by decide +kernel
theorem dX8_sheet_30 : decode cX8_sheet 30 = .ok (.bipush (-14), 2) := by decide +kernel
theorem dX8_sheet_32 : decode cX8_sheet 32 = .ok (.ireturn, 1) := by decide +kernel
theorem dX8_sheet_33 : decode cX8_sheet 33 = .ok (.aload_n 0, 1) := by decide +kernel
theorem dX8_sheet_34 : decode cX8_sheet 34 = .ok (.getfield 57, 3) := by decide +kernel
theorem dX8_sheet_37 : decode cX8_sheet 37 = .ok (.iload_n 1, 1) := by decide +kernel
theorem dX8_sheet_38 : decode cX8_sheet 38 = .ok (.aaload, 1) := by decide +kernel
theorem dX8_sheet_39 : decode cX8_sheet 39 = .ok (.iload_n 2, 1) := by decide +kernel
theorem dX8_sheet_40 : decode cX8_sheet 40 = .ok (.iload_n 3, 1) := by decide +kernel
theorem dX8_sheet_41 : decode cX8_sheet 41 = .ok (.invokevirtual 333, 3) := by decide +kernel
theorem dX8_sheet_44 : decode cX8_sheet 44 = .ok (.iconst 1, 1) := by decide +kernel
theorem dX8_sheet_45 : decode cX8_sheet 45 = .ok (.ireturn, 1) := by decide +kernel
def f_X8_tell (m : Mm) (P : Nat) (a1 : Int32) (a2 : Int32) (a3 : Int32) (a4 : Int32) : Option (Int32 × Mm) :=
  if a1 < (m 4 0) then (some ((-1), m)) else (if (999 : Int32) < a1 then (some ((-1), m)) else ((f_X8_isOrder m P a2 a3 a4).bind fun x1 => if x1 = 0 then (some ((-1), m)) else (bind2 (f_X0_append m 10 a1 a2 a3 a4) fun x3 m4 => some (x3, m4))))
set_option maxHeartbeats 4000000 in
set_option maxRecDepth 100000 in
theorem ct_X8_tell (F : Nat) {n : Nat} (hn : 113 ≤ n) (P D : Nat) (T : Option Nat) (hP : isPl P) (m : Mm) (a1 : Int32) (a2 : Int32) (a3 : Int32) (a4 : Int32) : Ct yX8_tell cX8_tell 5 (some .int) 2 44 [.ref 0, .int a1, .int a2, .int a3, .int a4] n n m (RF P D T) (rI (RF P D T) (f_X8_tell m P a1 a2 a3 a4)) := by
  refine Ct.ofI (own := RX8) (nm := "tell") [(0, .ref 0), (1, .int a1), (2, .int a2), (3, .int a3), (4, .int a4)] (by decide) (Nat.le_of_ble_eq_true rfl) rfl rfl rfl ?_
  unfold f_X8_tell
  refine J_iload_n 1 1 a1 dX8_tell_0 rfl rfl ?_
  refine J_aload_n 0 0 0 dX8_tell_1 rfl rfl ?_
  refine J_getR 0 8 1 4 dX8_tell_2 fl_8_19 rfl rfl (Nat.lt_of_lt_of_le (Nat.le_of_ble_eq_true rfl) hn) rfl ?_
  refine J_getI 4 7 0 dX8_tell_5 fl_8_211 rfl rfl (Nat.lt_of_lt_of_le (Nat.le_of_ble_eq_true rfl) hn) ?_
  refine J_icmp_lt 29 dX8_tell_8 (by decide) ?_ ?_
  · refine J_iconst (-1) dX8_tell_29 (by decide) ?_
    exact J_iretI dX8_tell_30 rfl rfl
  · refine J_iload_n 1 1 a1 dX8_tell_11 rfl rfl ?_
    refine J_sipush 999 dX8_tell_12 (by decide) ?_
    refine J_icmp_gt 29 dX8_tell_15 (by decide) ?_ ?_
    · refine J_iconst (-1) dX8_tell_29 (by decide) ?_
      exact J_iretI dX8_tell_30 rfl rfl
    · refine J_aload_n 0 0 0 dX8_tell_18 rfl rfl ?_
      refine J_iload_n 2 2 a2 dX8_tell_19 rfl rfl ?_
      refine J_iload_n 3 3 a3 dX8_tell_20 rfl rfl ?_
      refine J_iload 4 4 a4 dX8_tell_21 rfl ?_
      refine J_callVP 0 8 3 [.int a2, .int a3, .int a4] dX8_tell_23 mv_X8_isOrder mv_X8_isOrderv lk_8_364 (ct_X8_isOrder F hn P D T hP m a2 a3 a4) rfl rfl (by decide) rfl (Nat.lt_of_lt_of_le (Nat.le_of_ble_eq_true rfl) hn) ⟨by decide, by decide⟩ (Nat.le_of_ble_eq_true rfl) (fun x1 => ?_)
      refine J_if_ne 31 dX8_tell_26 (by decide) ?_ ?_
      · refine J_aload_n 0 0 0 dX8_tell_31 rfl rfl ?_
        refine J_getR 0 8 1 4 dX8_tell_32 fl_8_19 rfl rfl (Nat.lt_of_lt_of_le (Nat.le_of_ble_eq_true rfl) hn) rfl ?_
        refine J_getR 4 7 9 10 dX8_tell_35 fl_8_154 rfl rfl (Nat.lt_of_lt_of_le (Nat.le_of_ble_eq_true rfl) hn) rfl ?_
        refine J_iload_n 1 1 a1 dX8_tell_38 rfl rfl ?_
        refine J_iload_n 2 2 a2 dX8_tell_39 rfl rfl ?_
        refine J_iload_n 3 3 a3 dX8_tell_40 rfl rfl ?_
        refine J_iload 4 4 a4 dX8_tell_41 rfl ?_
        refine J_callVI 10 0 4 [.int a1, .int a2, .int a3, .int a4] dX8_tell_43 mv_X0_append mv_X0_appendv lk_8_368 (ct_X0_append F hn P D T m 10 (by simp [isOr]) a1 a2 a3 a4) rfl rfl (by decide) rfl (Nat.lt_of_lt_of_le (Nat.le_of_ble_eq_true rfl) hn) ⟨by decide, by decide⟩ (Nat.le_of_ble_eq_true rfl) (fun x3 m4 => ?_)
        exact J_iretI dX8_tell_46 rfl rfl
      · refine J_iconst (-1) dX8_tell_29 (by decide) ?_
        exact J_iretI dX8_tell_30 rfl rfl
def f_X8_order (m : Mm) (P : Nat) (a1 : Int32) (a2 : Int32) (a3 : Int32) (a4 : Int32) : Option (Int32 × Mm) :=
  bind2 (f_X8_tell m P a1 a2 a3 a4) fun x1 m2 => some (x1, m2)
set_option maxHeartbeats 4000000 in
set_option maxRecDepth 100000 in
theorem ct_X8_order (F : Nat) {n : Nat} (hn : 113 ≤ n) (P D : Nat) (T : Option Nat) (hP : isPl P) (m : Mm) (a1 : Int32) (a2 : Int32) (a3 : Int32) (a4 : Int32) : Ct yX8_order cX8_order 5 (some .int) 3 68 [.ref 0, .int a1, .int a2, .int a3, .int a4] n n m (RF P D T) (rI (RF P D T) (f_X8_order m P a1 a2 a3 a4)) := by
  refine Ct.ofI (own := RX8) (nm := "order") [(0, .ref 0), (1, .int a1), (2, .int a2), (3, .int a3), (4, .int a4)] (by decide) (Nat.le_of_ble_eq_true rfl) rfl rfl rfl ?_
  unfold f_X8_order
  refine J_aload_n 0 0 0 dX8_order_0 rfl rfl ?_
  refine J_iload_n 1 1 a1 dX8_order_1 rfl rfl ?_
  refine J_iload_n 2 2 a2 dX8_order_2 rfl rfl ?_
  refine J_iload_n 3 3 a3 dX8_order_3 rfl rfl ?_
  refine J_iload 4 4 a4 dX8_order_4 rfl ?_
  refine J_callVI 0 8 4 [.int a1, .int a2, .int a3, .int a4] dX8_order_6 mv_X8_tell mv_X8_tellv lk_8_233 (ct_X8_tell F hn P D T hP m a1 a2 a3 a4) rfl rfl (by decide) rfl (Nat.lt_of_lt_of_le (Nat.le_of_ble_eq_true rfl) hn) ⟨by decide, by decide⟩ (Nat.le_of_ble_eq_true rfl) (fun x1 m2 => ?_)
  exact J_iretI dX8_order_9 rfl rfl
def f_X8_pump (m : Mm) (P : Nat) (a1 : Int32) (a2 : Int32) : Option (Int32) :=
  (f_X8_isPump m P a1).bind fun x1 => if x1 = 0 then (some (-1)) else (if a2 = 0 then ((ald m (P + 14) 3 a1).bind fun x3 => some x3) else (if a2 = 1 then ((ald m 9 3 a1).bind fun x4 => some x4) else (some (-1))))
set_option maxHeartbeats 4000000 in
set_option maxRecDepth 100000 in
theorem ct_X8_pump (F : Nat) {n : Nat} (hn : 113 ≤ n) (P D : Nat) (T : Option Nat) (hP : isPl P) (m : Mm) (a1 : Int32) (a2 : Int32) : Ct yX8_pump cX8_pump 3 (some .int) 1 21 [.ref 0, .int a1, .int a2] n n m (RF P D T) (rP m (RF P D T) (f_X8_pump m P a1 a2)) := by
  refine Ct.ofP (own := RX8) (nm := "pump") [(0, .ref 0), (1, .int a1), (2, .int a2)] (by decide) (Nat.le_of_ble_eq_true rfl) rfl rfl rfl ?_
  unfold f_X8_pump
  refine J_aload_n 0 0 0 dX8_pump_0 rfl rfl ?_
  refine J_iload_n 1 1 a1 dX8_pump_1 rfl rfl ?_
  refine J_callVP 0 8 1 [.int a1] dX8_pump_2 mv_X8_isPump mv_X8_isPumpv lk_8_182 (ct_X8_isPump F hn P D T hP m a1) rfl rfl (by decide) rfl (Nat.lt_of_lt_of_le (Nat.le_of_ble_eq_true rfl) hn) ⟨by decide, by decide⟩ (Nat.le_of_ble_eq_true rfl) (fun x1 => ?_)
  refine J_if_ne 10 dX8_pump_5 (by decide) ?_ ?_
  · refine J_iload_n 2 2 a2 dX8_pump_10 rfl rfl ?_
    refine J_split (c1 := 0) (fun hs11_0 => ?_) (fun hs11_0 => ?_)
    · refine J_lk (off := 25) 36 dX8_pump_11 (by decide) (by rw [hs11_0]; try rfl) (by decide) ?_
      refine J_aload_n 0 0 0 dX8_pump_36 rfl rfl ?_
      refine J_getR 0 8 9 P dX8_pump_37 fl_8_64 rfl rfl (Nat.lt_of_lt_of_le (Nat.le_of_ble_eq_true rfl) hn) rfl ?_
      refine J_getR P 1 17 (P + 14) dX8_pump_40 fl_8_185 (layc_Pl_0 hP) rfl (lt_Pl_0 hP hn) (rf_Pl_0_17 hP) ?_
      refine J_iload_n 1 1 a1 dX8_pump_43 rfl rfl ?_
      refine J_iald (P + 14) 3 dX8_pump_44 (lay_Pl_14 hP) (lt_Pl_14 hP hn) (fun x3 => ?_)
      exact J_iretP dX8_pump_45 rfl rfl
    · refine J_split (c1 := 1) (fun hs11_1 => ?_) (fun hs11_1 => ?_)
      · refine J_lk (off := 35) 46 dX8_pump_11 (by decide) (by rw [hs11_1]; try rfl) (by decide) ?_
        refine J_aload_n 0 0 0 dX8_pump_46 rfl rfl ?_
        refine J_getR 0 8 1 4 dX8_pump_47 fl_8_19 rfl rfl (Nat.lt_of_lt_of_le (Nat.le_of_ble_eq_true rfl) hn) rfl ?_
        refine J_getR 4 7 8 9 dX8_pump_50 fl_8_188 rfl rfl (Nat.lt_of_lt_of_le (Nat.le_of_ble_eq_true rfl) hn) rfl ?_
        refine J_iload_n 1 1 a1 dX8_pump_53 rfl rfl ?_
        refine J_iald 9 3 dX8_pump_54 rfl (Nat.lt_of_lt_of_le (Nat.le_of_ble_eq_true rfl) hn) (fun x4 => ?_)
        exact J_iretP dX8_pump_55 rfl rfl
      · refine J_lk (off := 45) 56 dX8_pump_11 (by decide) (by rw [lv_osw hs11_0 (by decide : Int32.toInt 0 = 0), lv_osw hs11_1 (by decide : Int32.toInt 1 = 1)]; try rfl) (by decide) ?_
        refine J_iconst (-1) dX8_pump_56 (by decide) ?_
        exact J_iretP dX8_pump_57 rfl rfl
  · refine J_iconst (-1) dX8_pump_8 (by decide) ?_
    exact J_iretP dX8_pump_9 rfl rfl
def f_X8_put (F : Nat) (m : Mm) (P : Nat) (a1 : Int32) (a2 : Int32) : Option (Int32 × Mm) :=
  (f_X8_isHold m P a1).bind fun x1 => if x1 = 0 then (some ((-1), m)) else (if a2 < 0 then (some ((-1), m)) else ((ald m (P + 1) 8 a1).bind fun x3 => if a2 ≤ x3 then (if (m 4 1) = 0 then ((ald m 5 8 a1).bind fun x4 => (ast m 5 8 a1 a2).bind fun m5 => (f_X7_seeWhetherSinks F m5 4 P).bind fun m7 => (f_X4_forget m7).bind fun m9 => some (x4, m9)) else (some ((-2), m))) else (some ((-1), m))))
set_option maxHeartbeats 4000000 in
set_option maxRecDepth 100000 in
theorem ct_X8_put (F : Nat) {n : Nat} (hn : 113 ≤ n) (P D : Nat) (T : Option Nat) (hP : isPl P) (m : Mm) (a1 : Int32) (a2 : Int32) : Ct yX8_put cX8_put 4 (some .int) 3 69 [.ref 0, .int a1, .int a2] n n m (RF P D T) (rI (RF P D T) (f_X8_put F m P a1 a2)) := by
  refine Ct.ofI (own := RX8) (nm := "put") [(0, .ref 0), (1, .int a1), (2, .int a2)] (by decide) (Nat.le_of_ble_eq_true rfl) rfl rfl rfl ?_
  unfold f_X8_put
  refine J_aload_n 0 0 0 dX8_put_0 rfl rfl ?_
  refine J_iload_n 1 1 a1 dX8_put_1 rfl rfl ?_
  refine J_callVP 0 8 1 [.int a1] dX8_put_2 mv_X8_isHold mv_X8_isHoldv lk_8_109 (ct_X8_isHold F hn P D T hP m a1) rfl rfl (by decide) rfl (Nat.lt_of_lt_of_le (Nat.le_of_ble_eq_true rfl) hn) ⟨by decide, by decide⟩ (Nat.le_of_ble_eq_true rfl) (fun x1 => ?_)
  refine J_if_eq 25 dX8_put_5 (by decide) ?_ ?_
  · refine J_iconst (-1) dX8_put_25 (by decide) ?_
    exact J_iretI dX8_put_26 rfl rfl
  · refine J_iload_n 2 2 a2 dX8_put_8 rfl rfl ?_
    refine J_if_lt 25 dX8_put_9 (by decide) ?_ ?_
    · refine J_iconst (-1) dX8_put_25 (by decide) ?_
      exact J_iretI dX8_put_26 rfl rfl
    · refine J_iload_n 2 2 a2 dX8_put_12 rfl rfl ?_
      refine J_aload_n 0 0 0 dX8_put_13 rfl rfl ?_
      refine J_getR 0 8 9 P dX8_put_14 fl_8_64 rfl rfl (Nat.lt_of_lt_of_le (Nat.le_of_ble_eq_true rfl) hn) rfl ?_
      refine J_getR P 1 4 (P + 1) dX8_put_17 fl_8_113 (layc_Pl_0 hP) rfl (lt_Pl_0 hP hn) (rf_Pl_0_4 hP) ?_
      refine J_iload_n 1 1 a1 dX8_put_20 rfl rfl ?_
      refine J_iald (P + 1) 8 dX8_put_21 (lay_Pl_1 hP) (lt_Pl_1 hP hn) (fun x3 => ?_)
      refine J_icmp_le 27 dX8_put_22 (by decide) ?_ ?_
      · refine J_aload_n 0 0 0 dX8_put_27 rfl rfl ?_
        refine J_getR 0 8 1 4 dX8_put_28 fl_8_19 rfl rfl (Nat.lt_of_lt_of_le (Nat.le_of_ble_eq_true rfl) hn) rfl ?_
        refine J_getI 4 7 1 dX8_put_31 fl_8_194 rfl rfl (Nat.lt_of_lt_of_le (Nat.le_of_ble_eq_true rfl) hn) ?_
        refine J_if_eq 40 dX8_put_34 (by decide) ?_ ?_
        · refine J_aload_n 0 0 0 dX8_put_40 rfl rfl ?_
          refine J_getR 0 8 1 4 dX8_put_41 fl_8_19 rfl rfl (Nat.lt_of_lt_of_le (Nat.le_of_ble_eq_true rfl) hn) rfl ?_
          refine J_getR 4 7 4 5 dX8_put_44 fl_8_123 rfl rfl (Nat.lt_of_lt_of_le (Nat.le_of_ble_eq_true rfl) hn) rfl ?_
          refine J_iload_n 1 1 a1 dX8_put_47 rfl rfl ?_
          refine J_iald 5 8 dX8_put_48 rfl (Nat.lt_of_lt_of_le (Nat.le_of_ble_eq_true rfl) hn) (fun x4 => ?_)
          refine J_istore_n 3 [(3, .int x4), (0, .ref 0), (1, .int a1), (2, .int a2)] dX8_put_49 rfl (by decide) rfl ?_
          refine J_aload_n 0 1 0 dX8_put_50 rfl rfl ?_
          refine J_getR 0 8 1 4 dX8_put_51 fl_8_19 rfl rfl (Nat.lt_of_lt_of_le (Nat.le_of_ble_eq_true rfl) hn) rfl ?_
          refine J_getR 4 7 4 5 dX8_put_54 fl_8_123 rfl rfl (Nat.lt_of_lt_of_le (Nat.le_of_ble_eq_true rfl) hn) rfl ?_
          refine J_iload_n 1 2 a1 dX8_put_57 rfl rfl ?_
          refine J_iload_n 2 3 a2 dX8_put_58 rfl rfl ?_
          refine J_iast 5 8 dX8_put_59 rfl (Nat.lt_of_lt_of_le (Nat.le_of_ble_eq_true rfl) hn) (fun m5 => ?_)
          refine J_aload_n 0 1 0 dX8_put_60 rfl rfl ?_
          refine J_getR 0 8 1 4 dX8_put_61 fl_8_19 rfl rfl (Nat.lt_of_lt_of_le (Nat.le_of_ble_eq_true rfl) hn) rfl ?_
          refine J_aload_n 0 1 0 dX8_put_64 rfl rfl ?_
          refine J_getR 0 8 9 P dX8_put_65 fl_8_64 rfl rfl (Nat.lt_of_lt_of_le (Nat.le_of_ble_eq_true rfl) hn) rfl ?_
          refine J_callVV 4 7 1 [.ref P] dX8_put_68 mv_X7_seeWhetherSinks mv_X7_seeWhetherSinksv lk_8_197 (ct_X7_seeWhetherSinks F hn P D T m5 4 (by simp [isSt]) P hP) rfl rfl (by decide) rfl (Nat.lt_of_lt_of_le (Nat.le_of_ble_eq_true rfl) hn) ⟨by decide, by decide⟩ (Nat.le_of_ble_eq_true rfl) (fun m7 => ?_)
          refine J_aload_n 0 1 0 dX8_put_71 rfl rfl ?_
          refine J_getR 0 8 5 34 dX8_put_72 fl_8_37 rfl rfl (Nat.lt_of_lt_of_le (Nat.le_of_ble_eq_true rfl) hn) rfl ?_
          refine J_callVV 34 4 0 [] dX8_put_75 mv_X4_forget mv_X4_forgetv lk_8_103 (ct_X4_forget F hn P D T m7) rfl rfl (by decide) rfl (Nat.lt_of_lt_of_le (Nat.le_of_ble_eq_true rfl) hn) ⟨by decide, by decide⟩ (Nat.le_of_ble_eq_true rfl) (fun m9 => ?_)
          refine J_iload_n 3 0 x4 dX8_put_78 rfl rfl ?_
          exact J_iretI dX8_put_79 rfl rfl
        · refine J_bipush (-2) dX8_put_37 (by decide) ?_
          exact J_iretI dX8_put_39 rfl rfl
      · refine J_iconst (-1) dX8_put_25 (by decide) ?_
        exact J_iretI dX8_put_26 rfl rfl
def f_X8_rates (F : Nat) (m : Mm) (P : Nat) (a1 : Int32) : Option (Int32) :=
  (f_X8_isHold m P a1).bind fun x1 => if x1 = 0 then (some (-1)) else ((ald m (P + 1) 8 a1).bind fun x3 => (f_X6_ratesThatFit F m x3).bind fun x4 => some x4)
set_option maxHeartbeats 4000000 in
set_option maxRecDepth 100000 in
theorem ct_X8_rates (F : Nat) {n : Nat} (hn : 113 ≤ n) (P D : Nat) (T : Option Nat) (hP : isPl P) (m : Mm) (a1 : Int32) : Ct yX8_rates cX8_rates 2 (some .int) 3 70 [.ref 0, .int a1] n n m (RF P D T) (rP m (RF P D T) (f_X8_rates F m P a1)) := by
  refine Ct.ofP (own := RX8) (nm := "rates") [(0, .ref 0), (1, .int a1)] (by decide) (Nat.le_of_ble_eq_true rfl) rfl rfl rfl ?_
  unfold f_X8_rates
  refine J_aload_n 0 0 0 dX8_rates_0 rfl rfl ?_
  refine J_iload_n 1 1 a1 dX8_rates_1 rfl rfl ?_
  refine J_callVP 0 8 1 [.int a1] dX8_rates_2 mv_X8_isHold mv_X8_isHoldv lk_8_109 (ct_X8_isHold F hn P D T hP m a1) rfl rfl (by decide) rfl (Nat.lt_of_lt_of_le (Nat.le_of_ble_eq_true rfl) hn) ⟨by decide, by decide⟩ (Nat.le_of_ble_eq_true rfl) (fun x1 => ?_)
  refine J_if_eq 27 dX8_rates_5 (by decide) ?_ ?_
  · refine J_iconst (-1) dX8_rates_27 (by decide) ?_
    exact J_iretP dX8_rates_28 rfl rfl
  · refine J_aload_n 0 0 0 dX8_rates_8 rfl rfl ?_
    refine J_getR 0 8 7 40 dX8_rates_9 fl_8_51 rfl rfl (Nat.lt_of_lt_of_le (Nat.le_of_ble_eq_true rfl) hn) rfl ?_
    refine J_aload_n 0 0 0 dX8_rates_12 rfl rfl ?_
    refine J_getR 0 8 9 P dX8_rates_13 fl_8_64 rfl rfl (Nat.lt_of_lt_of_le (Nat.le_of_ble_eq_true rfl) hn) rfl ?_
    refine J_getR P 1 4 (P + 1) dX8_rates_16 fl_8_113 (layc_Pl_0 hP) rfl (lt_Pl_0 hP hn) (rf_Pl_0_4 hP) ?_
    refine J_iload_n 1 1 a1 dX8_rates_19 rfl rfl ?_
    refine J_iald (P + 1) 8 dX8_rates_20 (lay_Pl_1 hP) (lt_Pl_1 hP hn) (fun x3 => ?_)
    refine J_callVP 40 6 1 [.int x3] dX8_rates_21 mv_X6_ratesThatFit mv_X6_ratesThatFitv lk_8_330 (ct_X6_ratesThatFit F hn P D T m x3) rfl rfl (by decide) rfl (Nat.lt_of_lt_of_le (Nat.le_of_ble_eq_true rfl) hn) ⟨by decide, by decide⟩ (Nat.le_of_ble_eq_true rfl) (fun x4 => ?_)
    refine J_goto 28 dX8_rates_24 (by decide) ?_
    exact J_iretP dX8_rates_28 rfl rfl
def f_X8_tellFrom (m : Mm) (P : Nat) (H : Nat) (a2 : Int32) : Option (Int32 × Mm) :=
  (ald m (H + 1) 40 a2).bind fun x1 => letv ((m 4 0) + x1) fun x2 => (ald m (H + 1) 40 (a2 + (1 : Int32))).bind fun x3 => (ald m (H + 1) 40 (a2 + (2 : Int32))).bind fun x4 => (ald m (H + 1) 40 (a2 + (3 : Int32))).bind fun x5 => bind2 (f_X8_tell m P x2 x3 x4 x5) fun x6 m7 => some (x6, m7)
set_option maxHeartbeats 4000000 in
set_option maxRecDepth 100000 in
theorem ct_X8_tellFrom (F : Nat) {n : Nat} (hn : 113 ≤ n) (P D : Nat) (T : Option Nat) (hP : isPl P) (m : Mm) (H : Nat) (hH : isSh H) (a2 : Int32) : Ct yX8_tellFrom cX8_tellFrom 4 (some .int) 3 68 [.ref 0, .ref H, .int a2] n n m (RF P D T) (rI (RF P D T) (f_X8_tellFrom m P H a2)) := by
  refine Ct.ofI (own := RX8) (nm := "tellFrom") [(0, .ref 0), (1, .ref H), (2, .int a2)] (by decide) (Nat.le_of_ble_eq_true rfl) rfl rfl rfl ?_
  unfold f_X8_tellFrom
  refine J_aload_n 0 0 0 dX8_tellFrom_0 rfl rfl ?_
  refine J_getR 0 8 1 4 dX8_tellFrom_1 fl_8_19 rfl rfl (Nat.lt_of_lt_of_le (Nat.le_of_ble_eq_true rfl) hn) rfl ?_
  refine J_getI 4 7 0 dX8_tellFrom_4 fl_8_211 rfl rfl (Nat.lt_of_lt_of_le (Nat.le_of_ble_eq_true rfl) hn) ?_
  refine J_aload_n 1 1 H dX8_tellFrom_7 rfl rfl ?_
  refine J_getR H 5 2 (H + 1) dX8_tellFrom_8 fl_8_370 (layc_Sh_0 hH) rfl (lt_Sh_0 hH hn) (rf_Sh_0_2 hH) ?_
  refine J_iload_n 2 2 a2 dX8_tellFrom_11 rfl rfl ?_
  refine J_iald (H + 1) 40 dX8_tellFrom_12 (lay_Sh_1 hH) (lt_Sh_1 hH hn) (fun x1 => ?_)
  refine J_iadd dX8_tellFrom_13 ?_
  refine J_let (fun x2 => ?_)
  refine J_istore_n 3 [(3, .int x2), (0, .ref 0), (1, .ref H), (2, .int a2)] dX8_tellFrom_14 rfl (by decide) rfl ?_
  refine J_aload_n 0 1 0 dX8_tellFrom_15 rfl rfl ?_
  refine J_iload_n 3 0 x2 dX8_tellFrom_16 rfl rfl ?_
  refine J_aload_n 1 2 H dX8_tellFrom_17 rfl rfl ?_
  refine J_getR H 5 2 (H + 1) dX8_tellFrom_18 fl_8_370 (layc_Sh_0 hH) rfl (lt_Sh_0 hH hn) (rf_Sh_0_2 hH) ?_
  refine J_iload_n 2 3 a2 dX8_tellFrom_21 rfl rfl ?_
  refine J_iconst 1 dX8_tellFrom_22 (by decide) ?_
  refine J_iadd dX8_tellFrom_23 ?_
  refine J_iald (H + 1) 40 dX8_tellFrom_24 (lay_Sh_1 hH) (lt_Sh_1 hH hn) (fun x3 => ?_)
  refine J_aload_n 1 2 H dX8_tellFrom_25 rfl rfl ?_
  refine J_getR H 5 2 (H + 1) dX8_tellFrom_26 fl_8_370 (layc_Sh_0 hH) rfl (lt_Sh_0 hH hn) (rf_Sh_0_2 hH) ?_
  refine J_iload_n 2 3 a2 dX8_tellFrom_29 rfl rfl ?_
  refine J_iconst 2 dX8_tellFrom_30 (by decide) ?_
  refine J_iadd dX8_tellFrom_31 ?_
  refine J_iald (H + 1) 40 dX8_tellFrom_32 (lay_Sh_1 hH) (lt_Sh_1 hH hn) (fun x4 => ?_)
  refine J_aload_n 1 2 H dX8_tellFrom_33 rfl rfl ?_
  refine J_getR H 5 2 (H + 1) dX8_tellFrom_34 fl_8_370 (layc_Sh_0 hH) rfl (lt_Sh_0 hH hn) (rf_Sh_0_2 hH) ?_
  refine J_iload_n 2 3 a2 dX8_tellFrom_37 rfl rfl ?_
  refine J_iconst 3 dX8_tellFrom_38 (by decide) ?_
  refine J_iadd dX8_tellFrom_39 ?_
  refine J_iald (H + 1) 40 dX8_tellFrom_40 (lay_Sh_1 hH) (lt_Sh_1 hH hn) (fun x5 => ?_)
  refine J_callVI 0 8 4 [.int x2, .int x3, .int x4, .int x5] dX8_tellFrom_41 mv_X8_tell mv_X8_tellv lk_8_233 (ct_X8_tell F hn P D T hP m x2 x3 x4 x5) rfl rfl (by decide) rfl (Nat.lt_of_lt_of_le (Nat.le_of_ble_eq_true rfl) hn) ⟨by decide, by decide⟩ (Nat.le_of_ble_eq_true rfl) (fun x6 m7 => ?_)
  exact J_iretI dX8_tellFrom_44 rfl rfl
def b_X8_read_58 (P : Nat) (a2 : Int32) (a3 : Int32) (a4 : Int32) (b1 : Nat) (t3 : Int32 × Int32 × Mm) : Option ((Int32 × Int32 × Mm) ⊕ ((Int32 × Int32 × Mm) ⊕ (Int32 × Int32 × Mm) ⊕ (Int32 × Int32 × Mm))) :=
  if a4 ≤ t3.2.1 then (some (Sum.inr (Sum.inr (Sum.inr ((t3.1, t3.2.1, t3.2.2)))))) else ((f_X5_tearAt t3.2.2 b1 a2 (a3 + ((4 : Int32) * t3.2.1)) 4).bind fun x7 => if x7 = 0 then (bind2 (f_X8_tellFrom t3.2.2 P b1 (a3 + ((4 : Int32) * t3.2.1))) fun x9 m10 => if 0 ≤ x9 then (some (Sum.inl (x7, t3.2.1 + 1, m10))) else (some (Sum.inr (Sum.inr (Sum.inl ((t3.2.1, x9, m10))))))) else (some (Sum.inr (Sum.inl ((x7, t3.2.1, t3.2.2))))))
def f_X8_read (F : Nat) (m : Mm) (P : Nat) (a1 : Int32) (a2 : Int32) (a3 : Int32) (a4 : Int32) : Option (Int32 × Mm) :=
  if a1 < 0 then (some ((-1), m)) else (if (4 : Int32) ≤ a1 then (some ((-1), m)) else (if a2 < 0 then (some ((-1), m)) else (if (3 : Int32) ≤ a2 then (some ((-1), m)) else (if a4 < 0 then (some ((-1), m)) else (if a4 ≤ (10 : Int32) then ((shtOf a1).bind fun b1 => letv (m 10 0) fun x2 => (iter F (b_X8_read_58 P a2 a3 a4 b1) ((0, 0, m) : Int32 × Int32 × Mm)).bind (Sum.elim (fun e4 : Int32 × Int32 × Mm => letv (up2 e4.2.2 0 12 e4.1) fun m11 => some (e4.2.1, m11)) (Sum.elim (fun e5 : Int32 × Int32 × Mm => letv (up2 e5.2.2 10 0 x2) fun m12 => if e5.2.1 = ((-1) : Int32) then (some (((-20) : Int32) - e5.1, m12)) else (some (e5.2.1, m12))) (fun e6 : Int32 × Int32 × Mm => letv (up2 e6.2.2 0 12 e6.1) fun m13 => some (e6.2.1, m13))))) else (some ((-1), m)))))))
set_option maxHeartbeats 4000000 in
set_option maxRecDepth 100000 in
theorem ct_X8_read (F : Nat) {n : Nat} (hn : 113 ≤ n) (P D : Nat) (T : Option Nat) (hP : isPl P) (m : Mm) (a1 : Int32) (a2 : Int32) (a3 : Int32) (a4 : Int32) : Ct yX8_read cX8_read 10 (some .int) 4 91 [.ref 0, .int a1, .int a2, .int a3, .int a4] n n m (RF P D T) (rI (RF P D T) (f_X8_read F m P a1 a2 a3 a4)) := by
  refine Ct.ofI (own := RX8) (nm := "read") [(0, .ref 0), (1, .int a1), (2, .int a2), (3, .int a3), (4, .int a4)] (by decide) (Nat.le_of_ble_eq_true rfl) rfl rfl rfl ?_
  unfold f_X8_read
  refine J_iload_n 1 1 a1 dX8_read_0 rfl rfl ?_
  refine J_if_lt 30 dX8_read_1 (by decide) ?_ ?_
  · refine J_iconst (-1) dX8_read_30 (by decide) ?_
    exact J_iretI dX8_read_31 rfl rfl
  · refine J_iload_n 1 1 a1 dX8_read_4 rfl rfl ?_
    refine J_iconst 4 dX8_read_5 (by decide) ?_
    refine J_icmp_ge 30 dX8_read_6 (by decide) ?_ ?_
    · refine J_iconst (-1) dX8_read_30 (by decide) ?_
      exact J_iretI dX8_read_31 rfl rfl
    · refine J_iload_n 2 2 a2 dX8_read_9 rfl rfl ?_
      refine J_if_lt 30 dX8_read_10 (by decide) ?_ ?_
      · refine J_iconst (-1) dX8_read_30 (by decide) ?_
        exact J_iretI dX8_read_31 rfl rfl
      · refine J_iload_n 2 2 a2 dX8_read_13 rfl rfl ?_
        refine J_iconst 3 dX8_read_14 (by decide) ?_
        refine J_icmp_ge 30 dX8_read_15 (by decide) ?_ ?_
        · refine J_iconst (-1) dX8_read_30 (by decide) ?_
          exact J_iretI dX8_read_31 rfl rfl
        · refine J_iload 4 4 a4 dX8_read_18 rfl ?_
          refine J_if_lt 30 dX8_read_20 (by decide) ?_ ?_
          · refine J_iconst (-1) dX8_read_30 (by decide) ?_
            exact J_iretI dX8_read_31 rfl rfl
          · refine J_iload 4 4 a4 dX8_read_23 rfl ?_
            refine J_bipush 10 dX8_read_25 (by decide) ?_
            refine J_icmp_le 32 dX8_read_27 (by decide) ?_ ?_
            · refine J_aload_n 0 0 0 dX8_read_32 rfl rfl ?_
              refine J_getR 0 8 8 42 dX8_read_33 fl_8_57 rfl rfl (Nat.lt_of_lt_of_le (Nat.le_of_ble_eq_true rfl) hn) rfl ?_
              refine J_iload_n 1 1 a1 dX8_read_36 rfl rfl ?_
              rw [← shtOf_eq P D T]
              refine J_aald 42 4 24 4 dX8_read_37 rfl (by decide) (fun _ => rfl) (Nat.lt_of_lt_of_le (Nat.le_of_ble_eq_true rfl) hn) (fun b1 hb1 => ?_)
              replace hb1 := sh_sheets hb1
              refine J_astore 5 [(5, .ref b1), (0, .ref 0), (1, .int a1), (2, .int a2), (3, .int a3), (4, .int a4)] dX8_read_38 (by decide) rfl ?_
              refine J_aload_n 0 1 0 dX8_read_40 rfl rfl ?_
              refine J_getR 0 8 1 4 dX8_read_41 fl_8_19 rfl rfl (Nat.lt_of_lt_of_le (Nat.le_of_ble_eq_true rfl) hn) rfl ?_
              refine J_getR 4 7 9 10 dX8_read_44 fl_8_154 rfl rfl (Nat.lt_of_lt_of_le (Nat.le_of_ble_eq_true rfl) hn) rfl ?_
              refine J_getI 10 0 0 dX8_read_47 fl_8_237 rfl rfl (Nat.lt_of_lt_of_le (Nat.le_of_ble_eq_true rfl) hn) ?_
              refine J_let (fun x2 => ?_)
              refine J_istore 6 [(6, .int x2), (5, .ref b1), (0, .ref 0), (1, .int a1), (2, .int a2), (3, .int a3), (4, .int a4)] dX8_read_50 (by decide) rfl ?_
              refine J_iconst 0 dX8_read_52 (by decide) ?_
              refine J_istore 7 [(7, .int 0), (6, .int x2), (5, .ref b1), (0, .ref 0), (1, .int a1), (2, .int a2), (3, .int a3), (4, .int a4)] dX8_read_53 (by decide) rfl ?_
              refine J_iconst 0 dX8_read_55 (by decide) ?_
              refine J_istore 8 [(8, .int 0), (7, .int 0), (6, .int x2), (5, .ref b1), (0, .ref 0), (1, .int a1), (2, .int a2), (3, .int a3), (4, .int a4)] dX8_read_56 (by decide) rfl ?_
              refine J_lv [4, 6, 7, 8, 3, 2, 1, 0] rfl ?_
              refine J_loop (pc := 58) (fun t3 : Int32 × Int32 × Mm => [(0, .ref 0), (2, .int a2), (3, .int a3), (4, .int a4), (5, .ref b1), (6, .int x2), (7, .int t3.1), (8, .int t3.2.1)]) (fun t3 => t3.2.2) (Sum.elim (fun _ => 85) (Sum.elim (fun _ => 107) (fun _ => 142))) (Sum.elim (fun e4 : Int32 × Int32 × Mm => [(0, .ref 0), (7, .int e4.1), (8, .int e4.2.1)]) (Sum.elim (fun e5 : Int32 × Int32 × Mm => [(0, .ref 0), (6, .int x2), (8, .int e5.1), (9, .int e5.2.1)]) (fun e6 : Int32 × Int32 × Mm => [(0, .ref 0), (7, .int e6.1), (8, .int e6.2.1)]))) (fun _ => []) (Sum.elim (fun e4 : Int32 × Int32 × Mm => e4.2.2) (Sum.elim (fun e5 : Int32 × Int32 × Mm => e5.2.2) (fun e6 : Int32 × Int32 × Mm => e6.2.2))) ?_ (fun t3 k1 hBt3 hXt3 => ?_) F ((0, 0, m))
              · refine sum_all ?_ ?_
                · intro e4
                  dsimp only [Sum.elim_inl, Sum.elim_inr]
                  refine J_goto 142 dX8_read_85 (by decide) ?_
                  refine J_aload_n 0 0 0 dX8_read_142 rfl rfl ?_
                  refine J_iload 7 1 e4.1 dX8_read_143 rfl ?_
                  refine J_putI 0 8 12 dX8_read_145 fl_8_350 rfl rfl (Nat.lt_of_lt_of_le (Nat.le_of_ble_eq_true rfl) hn) rfl rfl rfl (fun m11 => ?_)
                  refine J_iload 8 2 e4.2.1 dX8_read_148 rfl ?_
                  exact J_iretI dX8_read_150 rfl rfl
                · refine sum_all ?_ ?_
                  · intro e5
                    dsimp only [Sum.elim_inl, Sum.elim_inr]
                    refine J_aload_n 0 0 0 dX8_read_107 rfl rfl ?_
                    refine J_getR 0 8 1 4 dX8_read_108 fl_8_19 rfl rfl (Nat.lt_of_lt_of_le (Nat.le_of_ble_eq_true rfl) hn) rfl ?_
                    refine J_getR 4 7 9 10 dX8_read_111 fl_8_154 rfl rfl (Nat.lt_of_lt_of_le (Nat.le_of_ble_eq_true rfl) hn) rfl ?_
                    refine J_iload 6 1 x2 dX8_read_114 rfl ?_
                    refine J_putI 10 0 0 dX8_read_116 fl_8_237 rfl rfl (Nat.lt_of_lt_of_le (Nat.le_of_ble_eq_true rfl) hn) rfl rfl rfl (fun m12 => ?_)
                    refine J_iload 9 3 e5.2.1 dX8_read_119 rfl ?_
                    refine J_iconst (-1) dX8_read_121 (by decide) ?_
                    refine J_icmp_ne 133 dX8_read_122 (by decide) ?_ ?_
                    · refine J_iload 9 3 e5.2.1 dX8_read_133 rfl ?_
                      exact J_iretI dX8_read_135 rfl rfl
                    · refine J_bipush (-20) dX8_read_125 (by decide) ?_
                      refine J_iload 8 2 e5.1 dX8_read_127 rfl ?_
                      refine J_isub dX8_read_129 ?_
                      refine J_goto 135 dX8_read_130 (by decide) ?_
                      exact J_iretI dX8_read_135 rfl rfl
                  · intro e6
                    dsimp only [Sum.elim_inl, Sum.elim_inr]
                    refine J_aload_n 0 0 0 dX8_read_142 rfl rfl ?_
                    refine J_iload 7 1 e6.1 dX8_read_143 rfl ?_
                    refine J_putI 0 8 12 dX8_read_145 fl_8_350 rfl rfl (Nat.lt_of_lt_of_le (Nat.le_of_ble_eq_true rfl) hn) rfl rfl rfl (fun m13 => ?_)
                    refine J_iload 8 2 e6.2.1 dX8_read_148 rfl ?_
                    exact J_iretI dX8_read_150 rfl rfl
              · unfold b_X8_read_58
                refine J_iload 8 7 t3.2.1 dX8_read_58 rfl ?_
                refine J_iload 4 3 a4 dX8_read_60 rfl ?_
                refine J_icmp_ge 142 dX8_read_62 (by decide) ?_ ?_
                · exact J_lv [0, 6, 7] rfl (hXt3 (Sum.inr (Sum.inr ((t3.1, t3.2.1, t3.2.2)))))
                · refine J_aload 5 4 b1 dX8_read_65 rfl ?_
                  refine J_iload_n 2 1 a2 dX8_read_67 rfl rfl ?_
                  refine J_iload_n 3 2 a3 dX8_read_68 rfl rfl ?_
                  refine J_iconst 4 dX8_read_69 (by decide) ?_
                  refine J_iload 8 7 t3.2.1 dX8_read_70 rfl ?_
                  refine J_imul dX8_read_72 ?_
                  refine J_iadd dX8_read_73 ?_
                  refine J_iconst 4 dX8_read_74 (by decide) ?_
                  refine J_callVP b1 5 3 [.int a2, .int (a3 + ((4 : Int32) * t3.2.1)), .int 4] dX8_read_75 mv_X5_tearAt mv_X5_tearAtv lk_8_340 (ct_X5_tearAt F hn P D T t3.2.2 b1 hb1 a2 (a3 + ((4 : Int32) * t3.2.1)) 4) rfl (layc_Sh_0 hb1) (by decide) rfl (lt_Sh_0 hb1 hn) ⟨by decide, by decide⟩ (Nat.le_of_ble_eq_true rfl) (fun x7 => ?_)
                  refine J_istore 7 [(7, .int x7), (0, .ref 0), (2, .int a2), (3, .int a3), (4, .int a4), (5, .ref b1), (6, .int x2), (8, .int t3.2.1)] dX8_read_78 (by decide) rfl ?_
                  refine J_iload 7 0 x7 dX8_read_80 rfl ?_
                  refine J_if_eq 88 dX8_read_82 (by decide) ?_ ?_
                  · refine J_aload_n 0 1 0 dX8_read_88 rfl rfl ?_
                    refine J_aload 5 5 b1 dX8_read_89 rfl ?_
                    refine J_iload_n 3 3 a3 dX8_read_91 rfl rfl ?_
                    refine J_iconst 4 dX8_read_92 (by decide) ?_
                    refine J_iload 8 7 t3.2.1 dX8_read_93 rfl ?_
                    refine J_imul dX8_read_95 ?_
                    refine J_iadd dX8_read_96 ?_
                    refine J_callVI 0 8 2 [.ref b1, .int (a3 + ((4 : Int32) * t3.2.1))] dX8_read_97 mv_X8_tellFrom mv_X8_tellFromv lk_8_346 (ct_X8_tellFrom F hn P D T hP t3.2.2 b1 hb1 (a3 + ((4 : Int32) * t3.2.1))) rfl rfl (by decide) rfl (Nat.lt_of_lt_of_le (Nat.le_of_ble_eq_true rfl) hn) ⟨by decide, by decide⟩ (Nat.le_of_ble_eq_true rfl) (fun x9 m10 => ?_)
                    refine J_istore 9 [(9, .int x9), (7, .int x7), (0, .ref 0), (2, .int a2), (3, .int a3), (4, .int a4), (5, .ref b1), (6, .int x2), (8, .int t3.2.1)] dX8_read_100 (by decide) rfl ?_
                    refine J_iload 9 0 x9 dX8_read_102 rfl ?_
                    refine J_if_ge 136 dX8_read_104 (by decide) ?_ ?_
                    · refine J_iinc 8 8 [(8, .int (t3.2.1 + 1)), (9, .int x9), (7, .int x7), (0, .ref 0), (2, .int a2), (3, .int a3), (4, .int a4), (5, .ref b1), (6, .int x2)] t3.2.1 (t3.2.1 + 1) dX8_read_136 rfl rfl (by decide) rfl ?_
                      refine J_goto 58 dX8_read_139 (by decide) ?_
                      exact J_lv [3, 4, 5, 6, 7, 8, 2, 0] rfl (hBt3 (x7, t3.2.1 + 1, m10))
                    · exact J_lv [2, 7, 8, 0] rfl (hXt3 (Sum.inr (Sum.inl ((t3.2.1, x9, m10)))))
                  · exact J_lv [1, 0, 7] rfl (hXt3 (Sum.inl ((x7, t3.2.1, t3.2.2))))
            · refine J_iconst (-1) dX8_read_30 (by decide) ?_
              exact J_iretI dX8_read_31 rfl rfl
def f_X8_recall (F : Nat) (m : Mm) : Option (Int32 × Mm) :=
  bind2 (f_X0_failThoseToCome F m 10) fun x1 m2 => some (x1, m2)
set_option maxHeartbeats 4000000 in
set_option maxRecDepth 100000 in
theorem ct_X8_recall (F : Nat) {n : Nat} (hn : 113 ≤ n) (P D : Nat) (T : Option Nat) (m : Mm)  : Ct yX8_recall cX8_recall 1 (some .int) 2 45 [.ref 0] n n m (RF P D T) (rI (RF P D T) (f_X8_recall F m)) := by
  refine Ct.ofI (own := RX8) (nm := "recall") [(0, .ref 0)] (by decide) (Nat.le_of_ble_eq_true rfl) rfl rfl rfl ?_
  unfold f_X8_recall
  refine J_aload_n 0 0 0 dX8_recall_0 rfl rfl ?_
  refine J_getR 0 8 1 4 dX8_recall_1 fl_8_19 rfl rfl (Nat.lt_of_lt_of_le (Nat.le_of_ble_eq_true rfl) hn) rfl ?_
  refine J_getR 4 7 9 10 dX8_recall_4 fl_8_154 rfl rfl (Nat.lt_of_lt_of_le (Nat.le_of_ble_eq_true rfl) hn) rfl ?_
  refine J_callVI 10 0 0 [] dX8_recall_7 mv_X0_failThoseToCome mv_X0_failThoseToComev lk_8_257 (ct_X0_failThoseToCome F hn P D T m 10 (by simp [isOr])) rfl rfl (by decide) rfl (Nat.lt_of_lt_of_le (Nat.le_of_ble_eq_true rfl) hn) ⟨by decide, by decide⟩ (Nat.le_of_ble_eq_true rfl) (fun x1 m2 => ?_)
  exact J_iretI dX8_recall_10 rfl rfl
def f_X8_rule (m : Mm) (P : Nat) (a1 : Int32) : Option (Int32) :=
  if a1 < 0 then (some (-1)) else (if a1 < (5 : Int32) then ((ald m (P + 16) 5 a1).bind fun x1 => some x1) else (some (-1)))
set_option maxHeartbeats 4000000 in
set_option maxRecDepth 100000 in
theorem ct_X8_rule (F : Nat) {n : Nat} (hn : 113 ≤ n) (P D : Nat) (T : Option Nat) (hP : isPl P) (m : Mm) (a1 : Int32) : Ct yX8_rule cX8_rule 2 (some .int) 0 0 [.ref 0, .int a1] n n m (RF P D T) (rP m (RF P D T) (f_X8_rule m P a1)) := by
  refine Ct.ofP (own := RX8) (nm := "rule") [(0, .ref 0), (1, .int a1)] (by decide) (Nat.le_of_ble_eq_true rfl) rfl rfl rfl ?_
  unfold f_X8_rule
  refine J_iload_n 1 1 a1 dX8_rule_0 rfl rfl ?_
  refine J_if_lt 9 dX8_rule_1 (by decide) ?_ ?_
  · refine J_iconst (-1) dX8_rule_9 (by decide) ?_
    refine J_goto 22 dX8_rule_10 (by decide) ?_
    exact J_iretP dX8_rule_22 rfl rfl
  · refine J_iload_n 1 1 a1 dX8_rule_4 rfl rfl ?_
    refine J_iconst 5 dX8_rule_5 (by decide) ?_
    refine J_icmp_lt 13 dX8_rule_6 (by decide) ?_ ?_
    · refine J_aload_n 0 0 0 dX8_rule_13 rfl rfl ?_
      refine J_getR 0 8 9 P dX8_rule_14 fl_8_64 rfl rfl (Nat.lt_of_lt_of_le (Nat.le_of_ble_eq_true rfl) hn) rfl ?_
      refine J_getR P 1 19 (P + 16) dX8_rule_17 fl_8_191 (layc_Pl_0 hP) rfl (lt_Pl_0 hP hn) (rf_Pl_0_19 hP) ?_
      refine J_iload_n 1 1 a1 dX8_rule_20 rfl rfl ?_
      refine J_iald (P + 16) 5 dX8_rule_21 (lay_Pl_16 hP) (lt_Pl_16 hP hn) (fun x1 => ?_)
      exact J_iretP dX8_rule_22 rfl rfl
    · refine J_iconst (-1) dX8_rule_9 (by decide) ?_
      refine J_goto 22 dX8_rule_10 (by decide) ?_
      exact J_iretP dX8_rule_22 rfl rfl
def f_X8_run (F : Nat) (m : Mm) (P : Nat) (a1 : Int32) (a2 : Int32) : Option (Int32 × Mm) :=
  if a1 < (1 : Int32) then (some ((-1), m)) else (if (120 : Int32) < a1 then (some ((-1), m)) else (if a2 < 0 then (some ((-1), m)) else (if a2 ≤ (6 : Int32) then ((f_X7_copyFrom m 18 4).bind fun m2 => bind2 (f_X7_minutesAfloat F m2 18 P a1) fun x3 m4 => (f_X3_weigh F m4 39 P 19 0).bind fun m6 => if a2 = 0 then (some (x3, m6)) else (if a2 = 1 then (some (m6 18 1, m6)) else (if a2 = 2 then (some (m6 39 0, m6)) else (if a2 = 3 then (some (m6 39 1, m6)) else (if a2 = 4 then (some (m6 39 2, m6)) else (if a2 = 5 then ((f_X0_tally F m6 24 3).bind fun x7 => (f_X0_tally F m6 10 3).bind fun x9 => some (x7 - x9, m6)) else (some (m6 18 3, m6)))))))) else (some ((-1), m)))))
set_option maxHeartbeats 4000000 in
set_option maxRecDepth 100000 in
theorem ct_X8_run (F : Nat) {n : Nat} (hn : 113 ≤ n) (P D : Nat) (T : Option Nat) (hP : isPl P) (m : Mm) (a1 : Int32) (a2 : Int32) : Ct yX8_run cX8_run 4 (some .int) 5 115 [.ref 0, .int a1, .int a2] n n m (RF P D T) (rI (RF P D T) (f_X8_run F m P a1 a2)) := by
  refine Ct.ofI (own := RX8) (nm := "run") [(0, .ref 0), (1, .int a1), (2, .int a2)] (by decide) (Nat.le_of_ble_eq_true rfl) rfl rfl rfl ?_
  unfold f_X8_run
  refine J_iload_n 1 1 a1 dX8_run_0 rfl rfl ?_
  refine J_iconst 1 dX8_run_1 (by decide) ?_
  refine J_icmp_lt 21 dX8_run_2 (by decide) ?_ ?_
  · refine J_iconst (-1) dX8_run_21 (by decide) ?_
    exact J_iretI dX8_run_22 rfl rfl
  · refine J_iload_n 1 1 a1 dX8_run_5 rfl rfl ?_
    refine J_bipush 120 dX8_run_6 (by decide) ?_
    refine J_icmp_gt 21 dX8_run_8 (by decide) ?_ ?_
    · refine J_iconst (-1) dX8_run_21 (by decide) ?_
      exact J_iretI dX8_run_22 rfl rfl
    · refine J_iload_n 2 2 a2 dX8_run_11 rfl rfl ?_
      refine J_if_lt 21 dX8_run_12 (by decide) ?_ ?_
      · refine J_iconst (-1) dX8_run_21 (by decide) ?_
        exact J_iretI dX8_run_22 rfl rfl
      · refine J_iload_n 2 2 a2 dX8_run_15 rfl rfl ?_
        refine J_bipush 6 dX8_run_16 (by decide) ?_
        refine J_icmp_le 23 dX8_run_18 (by decide) ?_ ?_
        · refine J_aload_n 0 0 0 dX8_run_23 rfl rfl ?_
          refine J_getR 0 8 2 18 dX8_run_24 fl_8_23 rfl rfl (Nat.lt_of_lt_of_le (Nat.le_of_ble_eq_true rfl) hn) rfl ?_
          refine J_aload_n 0 0 0 dX8_run_27 rfl rfl ?_
          refine J_getR 0 8 1 4 dX8_run_28 fl_8_19 rfl rfl (Nat.lt_of_lt_of_le (Nat.le_of_ble_eq_true rfl) hn) rfl ?_
          refine J_callVV 18 7 1 [.ref 4] dX8_run_31 mv_X7_copyFrom mv_X7_copyFromv lk_8_229 (ct_X7_copyFrom F hn P D T m 18 (by simp [isSt]) 4 (by simp [isSt])) rfl rfl (by decide) rfl (Nat.lt_of_lt_of_le (Nat.le_of_ble_eq_true rfl) hn) ⟨by decide, by decide⟩ (Nat.le_of_ble_eq_true rfl) (fun m2 => ?_)
          refine J_aload_n 0 0 0 dX8_run_34 rfl rfl ?_
          refine J_getR 0 8 2 18 dX8_run_35 fl_8_23 rfl rfl (Nat.lt_of_lt_of_le (Nat.le_of_ble_eq_true rfl) hn) rfl ?_
          refine J_aload_n 0 0 0 dX8_run_38 rfl rfl ?_
          refine J_getR 0 8 9 P dX8_run_39 fl_8_64 rfl rfl (Nat.lt_of_lt_of_le (Nat.le_of_ble_eq_true rfl) hn) rfl ?_
          refine J_iload_n 1 1 a1 dX8_run_42 rfl rfl ?_
          refine J_callVI 18 7 2 [.ref P, .int a1] dX8_run_43 mv_X7_minutesAfloat mv_X7_minutesAfloatv lk_8_261 (ct_X7_minutesAfloat F hn P D T m2 18 (by simp [isSt]) P hP a1) rfl rfl (by decide) rfl (Nat.lt_of_lt_of_le (Nat.le_of_ble_eq_true rfl) hn) ⟨by decide, by decide⟩ (Nat.le_of_ble_eq_true rfl) (fun x3 m4 => ?_)
          refine J_istore_n 3 [(3, .int x3), (0, .ref 0), (1, .int a1), (2, .int a2)] dX8_run_46 rfl (by decide) rfl ?_
          refine J_aload_n 0 1 0 dX8_run_47 rfl rfl ?_
          refine J_getR 0 8 6 39 dX8_run_48 fl_8_44 rfl rfl (Nat.lt_of_lt_of_le (Nat.le_of_ble_eq_true rfl) hn) rfl ?_
          refine J_aload_n 0 1 0 dX8_run_51 rfl rfl ?_
          refine J_getR 0 8 9 P dX8_run_52 fl_8_64 rfl rfl (Nat.lt_of_lt_of_le (Nat.le_of_ble_eq_true rfl) hn) rfl ?_
          refine J_aload_n 0 1 0 dX8_run_55 rfl rfl ?_
          refine J_getR 0 8 2 18 dX8_run_56 fl_8_23 rfl rfl (Nat.lt_of_lt_of_le (Nat.le_of_ble_eq_true rfl) hn) rfl ?_
          refine J_getR 18 7 4 19 dX8_run_59 fl_8_123 rfl rfl (Nat.lt_of_lt_of_le (Nat.le_of_ble_eq_true rfl) hn) rfl ?_
          refine J_iconst 0 dX8_run_62 (by decide) ?_
          refine J_callVV 39 3 3 [.ref P, .ref 19, .int 0] dX8_run_63 mv_X3_weigh mv_X3_weighv lk_8_207 (ct_X3_weigh F hn P D T m4 39 (by simp [isSc]) P hP 19 ⟨rfl, Nat.le_of_ble_eq_true rfl⟩ 0) rfl rfl (by decide) rfl (Nat.lt_of_lt_of_le (Nat.le_of_ble_eq_true rfl) hn) ⟨by decide, by decide⟩ (Nat.le_of_ble_eq_true rfl) (fun m6 => ?_)
          refine J_iload_n 2 3 a2 dX8_run_66 rfl rfl ?_
          refine J_split (c1 := 0) (fun hs67_0 => ?_) (fun hs67_0 => ?_)
          · refine J_tsIn 104 hs67_0 dX8_run_67 (by decide) (by decide) rfl (by decide) ?_
            refine J_iload_n 3 0 x3 dX8_run_104 rfl rfl ?_
            exact J_iretI dX8_run_105 rfl rfl
          · refine J_split (c1 := 1) (fun hs67_1 => ?_) (fun hs67_1 => ?_)
            · refine J_tsIn 106 hs67_1 dX8_run_67 (by decide) (by decide) rfl (by decide) ?_
              refine J_aload_n 0 1 0 dX8_run_106 rfl rfl ?_
              refine J_getR 0 8 2 18 dX8_run_107 fl_8_23 rfl rfl (Nat.lt_of_lt_of_le (Nat.le_of_ble_eq_true rfl) hn) rfl ?_
              refine J_getI 18 7 1 dX8_run_110 fl_8_194 rfl rfl (Nat.lt_of_lt_of_le (Nat.le_of_ble_eq_true rfl) hn) ?_
              exact J_iretI dX8_run_113 rfl rfl
            · refine J_split (c1 := 2) (fun hs67_2 => ?_) (fun hs67_2 => ?_)
              · refine J_tsIn 114 hs67_2 dX8_run_67 (by decide) (by decide) rfl (by decide) ?_
                refine J_aload_n 0 1 0 dX8_run_114 rfl rfl ?_
                refine J_getR 0 8 6 39 dX8_run_115 fl_8_44 rfl rfl (Nat.lt_of_lt_of_le (Nat.le_of_ble_eq_true rfl) hn) rfl ?_
                refine J_getI 39 3 0 dX8_run_118 fl_8_214 rfl rfl (Nat.lt_of_lt_of_le (Nat.le_of_ble_eq_true rfl) hn) ?_
                exact J_iretI dX8_run_121 rfl rfl
              · refine J_split (c1 := 3) (fun hs67_3 => ?_) (fun hs67_3 => ?_)
                · refine J_tsIn 122 hs67_3 dX8_run_67 (by decide) (by decide) rfl (by decide) ?_
                  refine J_aload_n 0 1 0 dX8_run_122 rfl rfl ?_
                  refine J_getR 0 8 6 39 dX8_run_123 fl_8_44 rfl rfl (Nat.lt_of_lt_of_le (Nat.le_of_ble_eq_true rfl) hn) rfl ?_
                  refine J_getI 39 3 1 dX8_run_126 fl_8_217 rfl rfl (Nat.lt_of_lt_of_le (Nat.le_of_ble_eq_true rfl) hn) ?_
                  exact J_iretI dX8_run_129 rfl rfl
                · refine J_split (c1 := 4) (fun hs67_4 => ?_) (fun hs67_4 => ?_)
                  · refine J_tsIn 130 hs67_4 dX8_run_67 (by decide) (by decide) rfl (by decide) ?_
                    refine J_aload_n 0 1 0 dX8_run_130 rfl rfl ?_
                    refine J_getR 0 8 6 39 dX8_run_131 fl_8_44 rfl rfl (Nat.lt_of_lt_of_le (Nat.le_of_ble_eq_true rfl) hn) rfl ?_
                    refine J_getI 39 3 2 dX8_run_134 fl_8_220 rfl rfl (Nat.lt_of_lt_of_le (Nat.le_of_ble_eq_true rfl) hn) ?_
                    exact J_iretI dX8_run_137 rfl rfl
                  · refine J_split (c1 := 5) (fun hs67_5 => ?_) (fun hs67_5 => ?_)
                    · refine J_tsIn 138 hs67_5 dX8_run_67 (by decide) (by decide) rfl (by decide) ?_
                      refine J_aload_n 0 1 0 dX8_run_138 rfl rfl ?_
                      refine J_getR 0 8 2 18 dX8_run_139 fl_8_23 rfl rfl (Nat.lt_of_lt_of_le (Nat.le_of_ble_eq_true rfl) hn) rfl ?_
                      refine J_getR 18 7 9 24 dX8_run_142 fl_8_154 rfl rfl (Nat.lt_of_lt_of_le (Nat.le_of_ble_eq_true rfl) hn) rfl ?_
                      refine J_iconst 3 dX8_run_145 (by decide) ?_
                      refine J_callVP 24 0 1 [.int 3] dX8_run_146 mv_X0_tally mv_X0_tallyv lk_8_226 (ct_X0_tally F hn P D T m6 24 (by simp [isOr]) 3) rfl rfl (by decide) rfl (Nat.lt_of_lt_of_le (Nat.le_of_ble_eq_true rfl) hn) ⟨by decide, by decide⟩ (Nat.le_of_ble_eq_true rfl) (fun x7 => ?_)
                      refine J_aload_n 0 1 0 dX8_run_149 rfl rfl ?_
                      refine J_getR 0 8 1 4 dX8_run_150 fl_8_19 rfl rfl (Nat.lt_of_lt_of_le (Nat.le_of_ble_eq_true rfl) hn) rfl ?_
                      refine J_getR 4 7 9 10 dX8_run_153 fl_8_154 rfl rfl (Nat.lt_of_lt_of_le (Nat.le_of_ble_eq_true rfl) hn) rfl ?_
                      refine J_iconst 3 dX8_run_156 (by decide) ?_
                      refine J_callVP 10 0 1 [.int 3] dX8_run_157 mv_X0_tally mv_X0_tallyv lk_8_226 (ct_X0_tally F hn P D T m6 10 (by simp [isOr]) 3) rfl rfl (by decide) rfl (Nat.lt_of_lt_of_le (Nat.le_of_ble_eq_true rfl) hn) ⟨by decide, by decide⟩ (Nat.le_of_ble_eq_true rfl) (fun x9 => ?_)
                      refine J_isub dX8_run_160 ?_
                      exact J_iretI dX8_run_161 rfl rfl
                    · refine J_tsOut 162 dX8_run_67 (ts_out [0, 1, 2, 3, 4, 5] (by decide) (by simp only [List.mem_cons, List.not_mem_nil, or_false, forall_eq_or_imp, forall_eq]; exact ⟨hs67_0, hs67_1, hs67_2, hs67_3, hs67_4, hs67_5⟩)) (by decide) ?_
                      refine J_aload_n 0 1 0 dX8_run_162 rfl rfl ?_
                      refine J_getR 0 8 2 18 dX8_run_163 fl_8_23 rfl rfl (Nat.lt_of_lt_of_le (Nat.le_of_ble_eq_true rfl) hn) rfl ?_
                      refine J_getI 18 7 3 dX8_run_166 fl_8_264 rfl rfl (Nat.lt_of_lt_of_le (Nat.le_of_ble_eq_true rfl) hn) ?_
                      exact J_iretI dX8_run_169 rfl rfl
        · refine J_iconst (-1) dX8_run_21 (by decide) ?_
          exact J_iretI dX8_run_22 rfl rfl
def f_X8_sheet (m : Mm) (a1 : Int32) (a2 : Int32) (a3 : Int32) : Option (Int32 × Mm) :=
  if a1 < 0 then (some ((-1), m)) else (if (4 : Int32) ≤ a1 then (some ((-1), m)) else (if a2 < 0 then (some ((-1), m)) else (if (3 : Int32) ≤ a2 then (some ((-1), m)) else (if a3 ≤ (40 : Int32) then (if 0 ≤ a3 then ((shtOf a1).bind fun b1 => (f_X5_renew m b1 a2 a3).bind fun m3 => some (1, m3)) else (some ((-14), m))) else (some ((-1), m))))))
set_option maxHeartbeats 4000000 in
set_option maxRecDepth 100000 in
theorem ct_X8_sheet (F : Nat) {n : Nat} (hn : 113 ≤ n) (P D : Nat) (T : Option Nat) (m : Mm) (a1 : Int32) (a2 : Int32) (a3 : Int32) : Ct yX8_sheet cX8_sheet 4 (some .int) 2 45 [.ref 0, .int a1, .int a2, .int a3] n n m (RF P D T) (rI (RF P D T) (f_X8_sheet m a1 a2 a3)) := by
  refine Ct.ofI (own := RX8) (nm := "sheet") [(0, .ref 0), (1, .int a1), (2, .int a2), (3, .int a3)] (by decide) (Nat.le_of_ble_eq_true rfl) rfl rfl rfl ?_
  unfold f_X8_sheet
  refine J_iload_n 1 1 a1 dX8_sheet_0 rfl rfl ?_
  refine J_if_lt 24 dX8_sheet_1 (by decide) ?_ ?_
  · refine J_iconst (-1) dX8_sheet_24 (by decide) ?_
    exact J_iretI dX8_sheet_25 rfl rfl
  · refine J_iload_n 1 1 a1 dX8_sheet_4 rfl rfl ?_
    refine J_iconst 4 dX8_sheet_5 (by decide) ?_
    refine J_icmp_ge 24 dX8_sheet_6 (by decide) ?_ ?_
    · refine J_iconst (-1) dX8_sheet_24 (by decide) ?_
      exact J_iretI dX8_sheet_25 rfl rfl
    · refine J_iload_n 2 2 a2 dX8_sheet_9 rfl rfl ?_
      refine J_if_lt 24 dX8_sheet_10 (by decide) ?_ ?_
      · refine J_iconst (-1) dX8_sheet_24 (by decide) ?_
        exact J_iretI dX8_sheet_25 rfl rfl
      · refine J_iload_n 2 2 a2 dX8_sheet_13 rfl rfl ?_
        refine J_iconst 3 dX8_sheet_14 (by decide) ?_
        refine J_icmp_ge 24 dX8_sheet_15 (by decide) ?_ ?_
        · refine J_iconst (-1) dX8_sheet_24 (by decide) ?_
          exact J_iretI dX8_sheet_25 rfl rfl
        · refine J_iload_n 3 3 a3 dX8_sheet_18 rfl rfl ?_
          refine J_bipush 40 dX8_sheet_19 (by decide) ?_
          refine J_icmp_le 26 dX8_sheet_21 (by decide) ?_ ?_
          · refine J_iload_n 3 3 a3 dX8_sheet_26 rfl rfl ?_
            refine J_if_ge 33 dX8_sheet_27 (by decide) ?_ ?_
            · refine J_aload_n 0 0 0 dX8_sheet_33 rfl rfl ?_
              refine J_getR 0 8 8 42 dX8_sheet_34 fl_8_57 rfl rfl (Nat.lt_of_lt_of_le (Nat.le_of_ble_eq_true rfl) hn) rfl ?_
              refine J_iload_n 1 1 a1 dX8_sheet_37 rfl rfl ?_
              rw [← shtOf_eq P D T]
              refine J_aald 42 4 24 4 dX8_sheet_38 rfl (by decide) (fun _ => rfl) (Nat.lt_of_lt_of_le (Nat.le_of_ble_eq_true rfl) hn) (fun b1 hb1 => ?_)
              replace hb1 := sh_sheets hb1
              refine J_iload_n 2 2 a2 dX8_sheet_39 rfl rfl ?_
              refine J_iload_n 3 3 a3 dX8_sheet_40 rfl rfl ?_
              refine J_callVV b1 5 2 [.int a2, .int a3] dX8_sheet_41 mv_X5_renew mv_X5_renewv lk_8_333 (ct_X5_renew F hn P D T m b1 hb1 a2 a3) rfl (layc_Sh_0 hb1) (by decide) rfl (lt_Sh_0 hb1 hn) ⟨by decide, by decide⟩ (Nat.le_of_ble_eq_true rfl) (fun m3 => ?_)
              refine J_iconst 1 dX8_sheet_44 (by decide) ?_
              exact J_iretI dX8_sheet_45 rfl rfl
            · refine J_bipush (-14) dX8_sheet_30 (by decide) ?_
              exact J_iretI dX8_sheet_32 rfl rfl
          · refine J_iconst (-1) dX8_sheet_24 (by decide) ?_
            exact J_iretI dX8_sheet_25 rfl rfl

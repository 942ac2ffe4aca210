theorem fl_0_15 : FL RX0 15 0 2 := ⟨by decide, by decide, tb 88 (by decide +kernel) rfl⟩
theorem fl_0_18 : FL RX0 18 0 3 := ⟨by decide, by decide, tb 91 (by decide +kernel) rfl⟩
theorem fl_0_21 : FL RX0 21 0 4 := ⟨by decide, by decide, tb 94 (by decide +kernel) rfl⟩
theorem fl_0_24 : FL RX0 24 0 5 := ⟨by decide, by decide, tb 97 (by decide +kernel) rfl⟩
theorem fl_0_27 : FL RX0 27 0 6 := ⟨by decide, by decide, tb 100 (by decide +kernel) rfl⟩
theorem fl_0_30 : FL RX0 30 0 0 := ⟨by decide, by decide, tb 82 (by decide +kernel) rfl⟩
theorem fl_0_9 : FL RX0 9 0 1 := ⟨by decide, by decide, tb 85 (by decide +kernel) rfl⟩
theorem fl_1_57 : FL RX1 57 1 19 := ⟨by decide, by decide, tb 327 (by decide +kernel) rfl⟩
theorem fl_1_60 : FL RX1 60 1 0 := ⟨by decide, by decide, tb 252 (by decide +kernel) rfl⟩
theorem fl_1_64 : FL RX1 64 1 1 := ⟨by decide, by decide, tb 257 (by decide +kernel) rfl⟩
theorem fl_1_67 : FL RX1 67 1 2 := ⟨by decide, by decide, tb 262 (by decide +kernel) rfl⟩
theorem fl_1_70 : FL RX1 70 1 3 := ⟨by decide, by decide, tb 267 (by decide +kernel) rfl⟩
theorem fl_2_19 : FL RX2 19 2 1 := ⟨by decide, by decide, tb 34 (by decide +kernel) rfl⟩
theorem fl_2_9 : FL RX2 9 2 0 := ⟨by decide, by decide, tb 33 (by decide +kernel) rfl⟩
theorem lk_0_34 : Cond.methodLink RX0 34 arraycopyName ∈ TBg := tb 752 (by decide +kernel) rfl
theorem lk_0_40 : Cond.methodLink RX0 40 yX0_tally ∈ TBg := tb 785 (by decide +kernel) rfl
theorem lk_2_87 : Cond.methodLink RX2 87 yX2_kindOf ∈ TBg := tb 498 (by decide +kernel) rfl
theorem mv_X0_tally : MV yX0_tally cX0_tally 4 (some .int) 1 := ⟨tb 694 (by decide +kernel) rfl, tb 4 (by decide +kernel) rfl, by decide +kernel⟩
theorem mv_X0_tallyv : Cond.instanceMethod yX0_tally ∈ TBg ∧ Cond.selects yX0_tally.cls yX0_tally yX0_tally ∈ TBg := ⟨tb 692 (by decide +kernel) rfl, tb 693 (by decide +kernel) rfl⟩
theorem mv_X2_kindOf : MV yX2_kindOf cX2_kindOf 1 (some .int) 1 := ⟨tb 500 (by decide +kernel) rfl, tb 2 (by decide +kernel) rfl, by decide +kernel⟩
theorem mv_X2_kindOfs : Cond.static yX2_kindOf ∈ TBg := tb 499 (by decide +kernel) rfl
theorem dX0_append_0 : decode cX0_append 0 = .ok (.aload_n 0, 1) := by decide +kernel
theorem dX0_append_1 : decode cX0_append 1 = .ok (.getfield 30, 3) := by decide +kernel
theorem dX0_append_4 : decode cX0_append 4 = .ok (.bipush 12, 2) := by decide +kernel
theorem dX0_append_6 : decode cX0_append 6 = .ok (.if_icmp .lt 6, 3) := by decide +kernel
theorem dX0_append_9 : decode cX0_append 9 = .ok (.bipush (-3), 2) := by decide +kernel
theorem dX0_append_11 : decode cX0_append 11 = .ok (.ireturn, 1) := by decide +kernel
theorem dX0_append_12 : decode cX0_append 12 = .ok (.aload_n 0, 1) := by decide +kernel
theorem dX0_append_13 : decode cX0_append 13 = .ok (.getfield 9, 3) := by decide +kernel
theorem dX0_append_16 : decode cX0_append 16 = .ok (.aload_n 0, 1) := by decide +kernel
theorem dX0_append_17 : decode cX0_append 17 = .ok (.getfield 30, 3) := by decide +kernel
theorem dX0_append_20 : decode cX0_append 20 = .ok (.iload_n 1, 1) := by decide +kernel
theorem dX0_append_21 : decode cX0_append 21 = .ok (.iastore, 1) := by decide +kernel
theorem dX0_append_22 : decode cX0_append 22 = .ok (.aload_n 0, 1) := by decide +kernel
theorem dX0_append_23 : decode cX0_append 23 = .ok (.getfield 15, 3) := by decide +kernel
theorem dX0_append_26 : decode cX0_append 26 = .ok (.aload_n 0, 1) := by decide +kernel
theorem dX0_append_27 : decode cX0_append 27 = .ok (.getfield 30, 3) := by decide +kernel
theorem dX0_append_30 : decode cX0_append 30 = .ok (.iload_n 2, 1) := by decide +kernel
theorem dX0_append_31 : decode cX0_append 31 = .ok (.iastore, 1) := by decide +kernel
theorem dX0_append_32 : decode cX0_append 32 = .ok (.aload_n 0, 1) := by decide +kernel
theorem dX0_append_33 : decode cX0_append 33 = .ok (.getfield 18, 3) := by decide +kernel
theorem dX0_append_36 : decode cX0_append 36 = .ok (.aload_n 0, 1) := by decide +kernel
theorem dX0_append_37 : decode cX0_append 37 = .ok (.getfield 30, 3) := by decide +kernel
theorem dX0_append_40 : decode cX0_append 40 = .ok (.iload_n 3, 1) := by decide +kernel
theorem dX0_append_41 : decode cX0_append 41 = .ok (.iastore, 1) := by decide +kernel
theorem dX0_append_42 : decode cX0_append 42 = .ok (.aload_n 0, 1) := by decide +kernel
theorem dX0_append_43 : decode cX0_append 43 = .ok (.getfield 21, 3) := by decide +kernel
theorem dX0_append_46 : decode cX0_append 46 = .ok (.aload_n 0, 1) := by decide +kernel
theorem dX0_append_47 : decode cX0_append 47 = .ok (.getfield 30, 3) := by decide +kernel
theorem dX0_append_50 : decode cX0_append 50 = .ok (.iload 4, 2) := by decide +kernel
theorem dX0_append_52 : decode cX0_append 52 = .ok (.iastore, 1) := by decide +kernel
theorem dX0_append_53 : decode cX0_append 53 = .ok (.aload_n 0, 1) := by decide +kernel
theorem dX0_append_54 : decode cX0_append 54 = .ok (.getfield 24, 3) := by decide +kernel
theorem dX0_append_57 : decode cX0_append 57 = .ok (.aload_n 0, 1) := by decide +kernel
theorem dX0_append_58 : decode cX0_append 58 = .ok (.getfield 30, 3) := by decide +kernel
theorem dX0_append_61 : decode cX0_append 61 = .ok (.iconst 0, 1) := by decide +kernel
theorem dX0_append_62 : decode cX0_append 62 = .ok (.iastore, 1) := by decide +kernel
theorem dX0_append_63 : decode cX0_append 63 = .ok (.aload_n 0, 1) := by decide +kernel
theorem dX0_append_64 : decode cX0_append 64 = .ok (.getfield 27, 3) := by decide +kernel
theorem dX0_append_67 : decode cX0_append 67 = .ok (.aload_n 0, 1) := by decide +kernel
theorem dX0_append_68 : decode cX0_append 68 = .ok (.getfield 30, 3) := by decide +kernel
theorem dX0_append_71 : decode cX0_append 71 = .ok (.bipush (-4), 2) := by decide +kernel
theorem dX0_append_73 : decode cX0_append 73 = .ok (.iastore, 1) := by decide +kernel
theorem dX0_append_74 : decode cX0_append 74 = .ok (.aload_n 0, 1) := by decide +kernel
theorem dX0_append_75 : decode cX0_append 75 = .ok (.dup, 1) := by decide +kernel
theorem dX0_append_76 : decode cX0_append 76 = .ok (.getfield 30, 3) := by decide +kernel
theorem dX0_append_79 : decode cX0_append 79 = .ok (.dup_x1, 1) := by decide +kernel
theorem dX0_append_80 : decode cX0_append 80 = .ok (.iconst 1, 1) := by decide +kernel
theorem dX0_append_81 : decode cX0_append 81 = .ok (.iadd, 1) := by decide +kernel
theorem dX0_append_82 : decode cX0_append 82 = .ok (.putfield 30, 3) := by decide +kernel
theorem dX0_append_85 : decode cX0_append 85 = .ok (.ireturn, 1) := by decide +kernel
theorem dX0_copyFrom_0 : decode cX0_copyFrom 0 = .ok (.aload_n 0, 1) := by decide +kernel
theorem dX0_copyFrom_1 : decode cX0_copyFrom 1 = .ok (.aload_n 1, 1) := by decide +kernel
theorem dX0_copyFrom_2 : decode cX0_copyFrom 2 = .ok (.getfield 30, 3) := by decide +kernel
theorem dX0_copyFrom_5 : decode cX0_copyFrom 5 = .ok (.putfield 30, 3) := by decide +kernel
theorem dX0_copyFrom_8 : decode cX0_copyFrom 8 = .ok (.aload_n 1, 1) := by decide +kernel
theorem dX0_copyFrom_9 : decode cX0_copyFrom 9 = .ok (.getfield 9, 3) := by decide +kernel
theorem dX0_copyFrom_12 : decode cX0_copyFrom 12 = .ok (.iconst 0, 1) := by decide +kernel
theorem dX0_copyFrom_13 : decode cX0_copyFrom 13 = .ok (.aload_n 0, 1) := by decide +kernel
theorem dX0_copyFrom_14 : decode cX0_copyFrom 14 = .ok (.getfield 9, 3) := by decide +kernel
theorem dX0_copyFrom_17 : decode cX0_copyFrom 17 = .ok (.iconst 0, 1) := by decide +kernel
theorem dX0_copyFrom_18 : decode cX0_copyFrom 18 = .ok (.aload_n 0, 1) := by decide +kernel
theorem dX0_copyFrom_19 : decode cX0_copyFrom 19 = .ok (.getfield 30, 3) := by decide +kernel
theorem dX0_copyFrom_22 : decode cX0_copyFrom 22 = .ok (.invokestatic 34, 3) := by decide +kernel
theorem dX0_copyFrom_25 : decode cX0_copyFrom 25 = .ok (.aload_n 1, 1) := by decide +kernel
theorem dX0_copyFrom_26 : decode cX0_copyFrom 26 = .ok (.getfield 15, 3) := by decide +kernel
theorem dX0_copyFrom_29 : decode cX0_copyFrom 29 = .ok (.iconst 0, 1) := by decide +kernel
theorem dX0_copyFrom_30 : decode cX0_copyFrom 30 = .ok (.aload_n 0, 1) := by decide +kernel
theorem dX0_copyFrom_31 : decode cX0_copyFrom 31 = .ok (.getfield 15, 3) := by decide +kernel
theorem dX0_copyFrom_34 : decode cX0_copyFrom 34 = .ok (.iconst 0, 1) := by decide +kernel
theorem dX0_copyFrom_35 : decode cX0_copyFrom 35 = .ok (.aload_n 0, 1) := by decide +kernel
theorem dX0_copyFrom_36 : decode cX0_copyFrom 36 = .ok (.getfield 30, 3) := by decide +kernel
theorem dX0_copyFrom_39 : decode cX0_copyFrom 39 = .ok (.invokestatic 34, 3) := by decide +kernel
theorem dX0_copyFrom_42 : decode cX0_copyFrom 42 = .ok (.aload_n 1, 1) := by decide +kernel
theorem dX0_copyFrom_43 : decode cX0_copyFrom 43 = .ok (.getfield 18, 3) := by decide +kernel
theorem dX0_copyFrom_46 : decode cX0_copyFrom 46 = .ok (.iconst 0, 1) := by decide +kernel
theorem dX0_copyFrom_47 : decode cX0_copyFrom 47 = .ok (.aload_n 0, 1) := by decide +kernel
theorem dX0_copyFrom_48 : decode cX0_copyFrom 48 = .ok (.getfield 18, 3) := by decide +kernel
theorem dX0_copyFrom_51 : decode cX0_copyFrom 51 = .ok (.iconst 0, 1) := by decide +kernel
theorem dX0_copyFrom_52 : decode cX0_copyFrom 52 = .ok (.aload_n 0, 1) := by decide +kernel
theorem dX0_copyFrom_53 : decode cX0_copyFrom 53 = .ok (.getfield 30, 3) := by decide +kernel
theorem dX0_copyFrom_56 : decode cX0_copyFrom 56 = .ok (.invokestatic 34, 3) := by decide +kernel
theorem dX0_copyFrom_59 : decode cX0_copyFrom 59 = .ok (.aload_n 1, 1) := by decide +kernel
theorem dX0_copyFrom_60 : decode cX0_copyFrom 60 = .ok (.getfield 21, 3) := by decide +kernel
theorem dX0_copyFrom_63 : decode cX0_copyFrom 63 = .ok (.iconst 0, 1) := by decide +kernel
theorem dX0_copyFrom_64 : decode cX0_copyFrom 64 = .ok (.aload_n 0, 1) := by decide +kernel
theorem dX0_copyFrom_65 : decode cX0_copyFrom 65 = .ok (.getfield 21, 3) := by decide +kernel
theorem dX0_copyFrom_68 : decode cX0_copyFrom 68 = .ok (.iconst 0, 1) := by decide +kernel
theorem dX0_copyFrom_69 : decode cX0_copyFrom 69 = .ok (.aload_n 0, 1) := by decide +kernel
theorem dX0_copyFrom_70 : decode cX0_copyFrom 70 = .ok (.getfield 30, 3) := by decide +kernel
theorem dX0_copyFrom_73 : decode cX0_copyFrom 73 = .ok (.invokestatic 34, 3) := by decide +kernel
theorem dX0_copyFrom_76 : decode cX0_copyFrom 76 = .ok (.aload_n 1, 1) := by decide +kernel
theorem dX0_copyFrom_77 : decode cX0_copyFrom 77 = .ok (.getfield 24, 3) := by decide +kernel
theorem dX0_copyFrom_80 : decode cX0_copyFrom 80 = .ok (.iconst 0, 1) := by decide +kernel
theorem dX0_copyFrom_81 : decode cX0_copyFrom 81 = .ok (.aload_n 0, 1) := by decide +kernel
theorem dX0_copyFrom_82 : decode cX0_copyFrom 82 = .ok (.getfield 24, 3) := by decide +kernel
theorem dX0_copyFrom_85 : decode cX0_copyFrom 85 = .ok (.iconst 0, 1) := by decide +kernel
theorem dX0_copyFrom_86 : decode cX0_copyFrom 86 = .ok (.aload_n 0, 1) := by decide +kernel
theorem dX0_copyFrom_87 : decode cX0_copyFrom 87 = .ok (.getfield 30, 3) := by decide +kernel
theorem dX0_copyFrom_90 : decode cX0_copyFrom 90 = .ok (.invokestatic 34, 3) := by decide +kernel
theorem dX0_copyFrom_93 : decode cX0_copyFrom 93 = .ok (.aload_n 1, 1) := by decide +kernel
theorem dX0_copyFrom_94 : decode cX0_copyFrom 94 = .ok (.getfield 27, 3) := by decide +kernel
theorem dX0_copyFrom_97 : decode cX0_copyFrom 97 = .ok (.iconst 0, 1) := by decide +kernel
theorem dX0_copyFrom_98 : decode cX0_copyFrom 98 = .ok (.aload_n 0, 1) := by decide +kernel
theorem dX0_copyFrom_99 : decode cX0_copyFrom 99 = .ok (.getfield 27, 3) := by decide +kernel
theorem dX0_copyFrom_102 : decode cX0_copyFrom 102 = .ok (.iconst 0, 1) := by decide +kernel
theorem dX0_copyFrom_103 : decode cX0_copyFrom 103 = .ok (.aload_n 0, 1) := by decide +kernel
theorem dX0_copyFrom_104 : decode cX0_copyFrom 104 = .ok (.getfield 30, 3) := by decide +kernel
theorem dX0_copyFrom_107 : decode cX0_copyFrom 107 = .ok (.invokestatic 34, 3) := by decide +kernel
theorem dX0_copyFrom_110 : decode cX0_copyFrom 110 = .ok (.return_, 1) := by decide +kernel
theorem dX0_tally_0 : decode cX0_tally 0 = .ok (.iconst 0, 1) := by decide +kernel
theorem dX0_tally_1 : decode cX0_tally 1 = .ok (.istore_n 2, 1) := by decide +kernel
theorem dX0_tally_2 : decode cX0_tally 2 = .ok (.iconst 0, 1) := by decide +kernel
theorem dX0_tally_3 : decode cX0_tally 3 = .ok (.istore_n 3, 1) := by decide +kernel
theorem dX0_tally_4 : decode cX0_tally 4 = .ok (.iload_n 3, 1) := by decide +kernel
theorem dX0_tally_5 : decode cX0_tally 5 = .ok (.aload_n 0, 1) := by decide +kernel
theorem dX0_tally_6 : decode cX0_tally 6 = .ok (.getfield 30, 3) := by decide +kernel
theorem dX0_tally_9 : decode cX0_tally 9 = .ok (.if_icmp .ge 22, 3) := by decide +kernel
theorem dX0_tally_12 : decode cX0_tally 12 = .ok (.aload_n 0, 1) := by decide +kernel
theorem dX0_tally_13 : decode cX0_tally 13 = .ok (.getfield 24, 3) := by decide +kernel
theorem dX0_tally_16 : decode cX0_tally 16 = .ok (.iload_n 3, 1) := by decide +kernel
theorem dX0_tally_17 : decode cX0_tally 17 = .ok (.iaload, 1) := by decide +kernel
theorem dX0_tally_18 : decode cX0_tally 18 = .ok (.iload_n 1, 1) := by decide +kernel
theorem dX0_tally_19 : decode cX0_tally 19 = .ok (.if_icmp .ne 6, 3) := by decide +kernel
theorem dX0_tally_22 : decode cX0_tally 22 = .ok (.iinc 2 1, 3) := by decide +kernel
theorem dX0_tally_25 : decode cX0_tally 25 = .ok (.iinc 3 1, 3) := by decide +kernel
theorem dX0_tally_28 : decode cX0_tally 28 = .ok (.goto (-24), 3) := by decide +kernel
theorem dX0_tally_31 : decode cX0_tally 31 = .ok (.iload_n 2, 1) := by decide +kernel
theorem dX0_tally_32 : decode cX0_tally 32 = .ok (.ireturn, 1) := by decide +kernel
theorem dX0_failThoseToCome_0 : decode cX0_failThoseToCome 0 = .ok (.aload_n 0, 1) := by decide +kernel
theorem dX0_failThoseToCome_1 : decode cX0_failThoseToCome 1 = .ok (.iconst 0, 1) := by decide +kernel
theorem dX0_failThoseToCome_2 : decode cX0_failThoseToCome 2 = .ok (.invokevirtual 40, 3) := by decide +kernel
theorem dX0_failThoseToCome_5 : decode cX0_failThoseToCome 5 = .ok (.istore_n 1, 1) := by decide +kernel
theorem dX0_failThoseToCome_6 : decode cX0_failThoseToCome 6 = .ok (.iconst 0, 1) := by decide +kernel
theorem dX0_failThoseToCome_7 : decode cX0_failThoseToCome 7 = .ok (.istore_n 2, 1) := by decide +kernel
theorem dX0_failThoseToCome_8 : decode cX0_failThoseToCome 8 = .ok (.iload_n 2, 1) := by decide +kernel
theorem dX0_failThoseToCome_9 : decode cX0_failThoseToCome 9 = .ok (.aload_n 0, 1) := by decide +kernel
theorem dX0_failThoseToCome_10 : decode cX0_failThoseToCome 10 = .ok (.getfield 30, 3) := by decide +kernel
theorem dX0_failThoseToCome_13 : decode cX0_failThoseToCome 13 = .ok (.if_icmp .ge 25, 3) := by decide +kernel
theorem dX0_failThoseToCome_16 : decode cX0_failThoseToCome 16 = .ok (.aload_n 0, 1) := by decide +kernel
theorem dX0_failThoseToCome_17 : decode cX0_failThoseToCome 17 = .ok (.getfield 24, 3) := by decide +kernel
theorem dX0_failThoseToCome_20 : decode cX0_failThoseToCome 20 = .ok (.iload_n 2, 1) := by decide +kernel
theorem dX0_failThoseToCome_21 : decode cX0_failThoseToCome 21 = .ok (.iaload, 1) := by decide +kernel
theorem dX0_failThoseToCome_22 : decode cX0_failThoseToCome 22 = .ok (.ifCond .ne 10, 3) := by decide +kernel
theorem dX0_failThoseToCome_25 : decode cX0_failThoseToCome 25 = .ok (.aload_n 0, 1) := by decide +kernel
theorem dX0_failThoseToCome_26 : decode cX0_failThoseToCome 26 = .ok (.getfield 24, 3) := by decide +kernel
theorem dX0_failThoseToCome_29 : decode cX0_failThoseToCome 29 = .ok (.iload_n 2, 1) := by decide +kernel
theorem dX0_failThoseToCome_30 : decode cX0_failThoseToCome 30 = .ok (.iconst 3, 1) := by decide +kernel
theorem dX0_failThoseToCome_31 : decode cX0_failThoseToCome 31 = .ok (.iastore, 1) := by decide +kernel
theorem dX0_failThoseToCome_32 : decode cX0_failThoseToCome 32 = .ok (.iinc 2 1, 3) := by decide +kernel
theorem dX0_failThoseToCome_35 : decode cX0_failThoseToCome 35 = .ok (.goto (-27), 3) := by decide +kernel
theorem dX0_failThoseToCome_38 : decode cX0_failThoseToCome 38 = .ok (.iload_n 1, 1) := by decide +kernel
theorem dX0_failThoseToCome_39 : decode cX0_failThoseToCome 39 = .ok (.ireturn, 1) := by decide +kernel
theorem dX0_isOnDoor_0 : decode cX0_isOnDoor 0 = .ok (.iconst 0, 1) := by decide +kernel
theorem dX0_isOnDoor_1 : decode cX0_isOnDoor 1 = .ok (.istore_n 2, 1) := by decide +kernel
theorem dX0_isOnDoor_2 : decode cX0_isOnDoor 2 = .ok (.iload_n 2, 1) := by decide +kernel
theorem dX0_isOnDoor_3 : decode cX0_isOnDoor 3 = .ok (.aload_n 0, 1) := by decide +kernel
theorem dX0_isOnDoor_4 : decode cX0_isOnDoor 4 = .ok (.getfield 30, 3) := by decide +kernel
theorem dX0_isOnDoor_7 : decode cX0_isOnDoor 7 = .ok (.if_icmp .ge 50, 3) := by decide +kernel
theorem dX0_isOnDoor_10 : decode cX0_isOnDoor 10 = .ok (.aload_n 0, 1) := by decide +kernel
theorem dX0_isOnDoor_11 : decode cX0_isOnDoor 11 = .ok (.getfield 24, 3) := by decide +kernel
theorem dX0_isOnDoor_14 : decode cX0_isOnDoor 14 = .ok (.iload_n 2, 1) := by decide +kernel
theorem dX0_isOnDoor_15 : decode cX0_isOnDoor 15 = .ok (.iaload, 1) := by decide +kernel
theorem dX0_isOnDoor_16 : decode cX0_isOnDoor 16 = .ok (.iconst 1, 1) := by decide +kernel
theorem dX0_isOnDoor_17 : decode cX0_isOnDoor 17 = .ok (.if_icmp .ne 34, 3) := by decide +kernel
theorem dX0_isOnDoor_20 : decode cX0_isOnDoor 20 = .ok (.aload_n 0, 1) := by decide +kernel
theorem dX0_isOnDoor_21 : decode cX0_isOnDoor 21 = .ok (.getfield 15, 3) := by decide +kernel
theorem dX0_isOnDoor_24 : decode cX0_isOnDoor 24 = .ok (.iload_n 2, 1) := by decide +kernel
theorem dX0_isOnDoor_25 : decode cX0_isOnDoor 25 = .ok (.iaload, 1) := by decide +kernel
theorem dX0_isOnDoor_26 : decode cX0_isOnDoor 26 = .ok (.ifCond .eq 13, 3) := by decide +kernel
theorem dX0_isOnDoor_29 : decode cX0_isOnDoor 29 = .ok (.aload_n 0, 1) := by decide +kernel
theorem dX0_isOnDoor_30 : decode cX0_isOnDoor 30 = .ok (.getfield 15, 3) := by decide +kernel
theorem dX0_isOnDoor_33 : decode cX0_isOnDoor 33 = .ok (.iload_n 2, 1) := by decide +kernel
theorem dX0_isOnDoor_34 : decode cX0_isOnDoor 34 = .ok (.iaload, 1) := by decide +kernel
theorem dX0_isOnDoor_35 : decode cX0_isOnDoor 35 = .ok (.iconst 1, 1) := by decide +kernel
theorem dX0_isOnDoor_36 : decode cX0_isOnDoor 36 = .ok (.if_icmp .ne 15, 3) := by decide +kernel
theorem dX0_isOnDoor_39 : decode cX0_isOnDoor 39 = .ok (.aload_n 0, 1) := by decide +kernel
theorem dX0_isOnDoor_40 : decode cX0_isOnDoor 40 = .ok (.getfield 18, 3) := by decide +kernel
theorem dX0_isOnDoor_43 : decode cX0_isOnDoor 43 = .ok (.iload_n 2, 1) := by decide +kernel
theorem dX0_isOnDoor_44 : decode cX0_isOnDoor 44 = .ok (.iaload, 1) := by decide +kernel
theorem dX0_isOnDoor_45 : decode cX0_isOnDoor 45 = .ok (.iload_n 1, 1) := by decide +kernel
theorem dX0_isOnDoor_46 : decode cX0_isOnDoor 46 = .ok (.if_icmp .ne 5, 3) := by decide +kernel
theorem dX0_isOnDoor_49 : decode cX0_isOnDoor 49 = .ok (.iconst 1, 1) := by decide +kernel
theorem dX0_isOnDoor_50 : decode cX0_isOnDoor 50 = .ok (.ireturn, 1) := by decide +kernel
theorem dX0_isOnDoor_51 : decode cX0_isOnDoor 51 = .ok (.iinc 2 1, 3) := by decide +kernel
theorem dX0_isOnDoor_54 : decode cX0_isOnDoor 54 = .ok (.goto (-52), 3) := by decide +kernel
theorem dX0_isOnDoor_57 : decode cX0_isOnDoor 57 = .ok (.iconst 0, 1) := by decide +kernel
theorem dX0_isOnDoor_58 : decode cX0_isOnDoor 58 = .ok (.ireturn, 1) := by decide +kernel
theorem dX0_isOnHole_0 : decode cX0_isOnHole 0 = .ok (.iconst 0, 1) := by decide +kernel
theorem dX0_isOnHole_1 : decode cX0_isOnHole 1 = .ok (.istore_n 2, 1) := by decide +kernel
theorem dX0_isOnHole_2 : decode cX0_isOnHole 2 = .ok (.iload_n 2, 1) := by decide +kernel
theorem dX0_isOnHole_3 : decode cX0_isOnHole 3 = .ok (.aload_n 0, 1) := by decide +kernel
theorem dX0_isOnHole_4 : decode cX0_isOnHole 4 = .ok (.getfield 30, 3) := by decide +kernel
theorem dX0_isOnHole_7 : decode cX0_isOnHole 7 = .ok (.if_icmp .ge 41, 3) := by decide +kernel
theorem dX0_isOnHole_10 : decode cX0_isOnHole 10 = .ok (.aload_n 0, 1) := by decide +kernel
theorem dX0_isOnHole_11 : decode cX0_isOnHole 11 = .ok (.getfield 24, 3) := by decide +kernel
theorem dX0_isOnHole_14 : decode cX0_isOnHole 14 = .ok (.iload_n 2, 1) := by decide +kernel
theorem dX0_isOnHole_15 : decode cX0_isOnHole 15 = .ok (.iaload, 1) := by decide +kernel
theorem dX0_isOnHole_16 : decode cX0_isOnHole 16 = .ok (.iconst 1, 1) := by decide +kernel
theorem dX0_isOnHole_17 : decode cX0_isOnHole 17 = .ok (.if_icmp .ne 25, 3) := by decide +kernel
theorem dX0_isOnHole_20 : decode cX0_isOnHole 20 = .ok (.aload_n 0, 1) := by decide +kernel
theorem dX0_isOnHole_21 : decode cX0_isOnHole 21 = .ok (.getfield 15, 3) := by decide +kernel
theorem dX0_isOnHole_24 : decode cX0_isOnHole 24 = .ok (.iload_n 2, 1) := by decide +kernel
theorem dX0_isOnHole_25 : decode cX0_isOnHole 25 = .ok (.iaload, 1) := by decide +kernel
theorem dX0_isOnHole_26 : decode cX0_isOnHole 26 = .ok (.iconst 2, 1) := by decide +kernel
theorem dX0_isOnHole_27 : decode cX0_isOnHole 27 = .ok (.if_icmp .ne 15, 3) := by decide +kernel
theorem dX0_isOnHole_30 : decode cX0_isOnHole 30 = .ok (.aload_n 0, 1) := by decide +kernel
theorem dX0_isOnHole_31 : decode cX0_isOnHole 31 = .ok (.getfield 18, 3) := by decide +kernel
theorem dX0_isOnHole_34 : decode cX0_isOnHole 34 = .ok (.iload_n 2, 1) := by decide +kernel
theorem dX0_isOnHole_35 : decode cX0_isOnHole 35 = .ok (.iaload, 1) := by decide +kernel
theorem dX0_isOnHole_36 : decode cX0_isOnHole 36 = .ok (.iload_n 1, 1) := by decide +kernel
theorem dX0_isOnHole_37 : decode cX0_isOnHole 37 = .ok (.if_icmp .ne 5, 3) := by decide +kernel
theorem dX0_isOnHole_40 : decode cX0_isOnHole 40 = .ok (.iconst 1, 1) := by decide +kernel
theorem dX0_isOnHole_41 : decode cX0_isOnHole 41 = .ok (.ireturn, 1) := by decide +kernel
theorem dX0_isOnHole_42 : decode cX0_isOnHole 42 = .ok (.iinc 2 1, 3) := by decide +kernel
theorem dX0_isOnHole_45 : decode cX0_isOnHole 45 = .ok (.goto (-43), 3) := by decide +kernel
theorem dX0_isOnHole_48 : decode cX0_isOnHole 48 = .ok (.iconst 0, 1) := by decide +kernel
theorem dX0_isOnHole_49 : decode cX0_isOnHole 49 = .ok (.ireturn, 1) := by decide +kernel
theorem dX1_clear_0 : decode cX1_clear 0 = .ok (.aload_n 0, 1) := by decide +kernel
theorem dX1_clear_1 : decode cX1_clear 1 = .ok (.iconst 0, 1) := by decide +kernel
theorem dX1_clear_2 : decode cX1_clear 2 = .ok (.putfield 60, 3) := by decide +kernel
theorem dX1_clear_5 : decode cX1_clear 5 = .ok (.aload_n 0, 1) := by decide +kernel
theorem dX1_clear_6 : decode cX1_clear 6 = .ok (.iconst 0, 1) := by decide +kernel
theorem dX1_clear_7 : decode cX1_clear 7 = .ok (.putfield 64, 3) := by decide +kernel
theorem dX1_clear_10 : decode cX1_clear 10 = .ok (.aload_n 0, 1) := by decide +kernel
theorem dX1_clear_11 : decode cX1_clear 11 = .ok (.iconst 0, 1) := by decide +kernel
theorem dX1_clear_12 : decode cX1_clear 12 = .ok (.putfield 67, 3) := by decide +kernel
theorem dX1_clear_15 : decode cX1_clear 15 = .ok (.aload_n 0, 1) := by decide +kernel
theorem dX1_clear_16 : decode cX1_clear 16 = .ok (.iconst 0, 1) := by decide +kernel
theorem dX1_clear_17 : decode cX1_clear 17 = .ok (.putfield 70, 3) := by decide +kernel
theorem dX1_clear_20 : decode cX1_clear 20 = .ok (.aload_n 0, 1) := by decide +kernel
theorem dX1_clear_21 : decode cX1_clear 21 = .ok (.getfield 57, 3) := by decide +kernel
theorem dX1_clear_24 : decode cX1_clear 24 = .ok (.iconst 0, 1) := by decide +kernel
theorem dX1_clear_25 : decode cX1_clear 25 = .ok (.iconst 1, 1) := by decide +kernel
theorem dX1_clear_26 : decode cX1_clear 26 = .ok (.iastore, 1) := by decide +kernel
theorem dX1_clear_27 : decode cX1_clear 27 = .ok (.aload_n 0, 1) := by decide +kernel
theorem dX1_clear_28 : decode cX1_clear 28 = .ok (.getfield 57, 3) := by decide +kernel
theorem dX1_clear_31 : decode cX1_clear 31 = .ok (.iconst 1, 1) := by decide +kernel
theorem dX1_clear_32 : decode cX1_clear 32 = .ok (.sipush 400, 3) := by decide +kernel
theorem dX1_clear_35 : decode cX1_clear 35 = .ok (.iastore, 1) := by decide +kernel
theorem dX1_clear_36 : decode cX1_clear 36 = .ok (.aload_n 0, 1) := by decide +kernel
theorem dX1_clear_37 : decode cX1_clear 37 = .ok (.getfield 57, 3) := by decide +kernel
theorem dX1_clear_40 : decode cX1_clear 40 = .ok (.iconst 2, 1) := by decide +kernel
theorem dX1_clear_41 : decode cX1_clear 41 = .ok (.bipush 40, 2) := by decide +kernel
theorem dX1_clear_43 : decode cX1_clear 43 = .ok (.iastore, 1) := by decide +kernel
theorem dX1_clear_44 : decode cX1_clear 44 = .ok (.aload_n 0, 1) := by decide +kernel
theorem dX1_clear_45 : decode cX1_clear 45 = .ok (.getfield 57, 3) := by decide +kernel
theorem dX1_clear_48 : decode cX1_clear 48 = .ok (.iconst 3, 1) := by decide +kernel
theorem dX1_clear_49 : decode cX1_clear 49 = .ok (.bipush 60, 2) := by decide +kernel
theorem dX1_clear_51 : decode cX1_clear 51 = .ok (.iastore, 1) := by decide +kernel
theorem dX1_clear_52 : decode cX1_clear 52 = .ok (.aload_n 0, 1) := by decide +kernel
theorem dX1_clear_53 : decode cX1_clear 53 = .ok (.getfield 57, 3) := by decide +kernel
theorem dX1_clear_56 : decode cX1_clear 56 = .ok (.iconst 4, 1) := by decide +kernel
theorem dX1_clear_57 : decode cX1_clear 57 = .ok (.iconst 0, 1) := by decide +kernel
theorem dX1_clear_58 : decode cX1_clear 58 = .ok (.iastore, 1) := by decide +kernel
theorem dX1_clear_59 : decode cX1_clear 59 = .ok (.return_, 1) := by decide +kernel
theorem dX2_append_0 : decode cX2_append 0 = .ok (.aload_n 0, 1) := by decide +kernel
theorem dX2_append_1 : decode cX2_append 1 = .ok (.getfield 19, 3) := by decide +kernel
theorem dX2_append_4 : decode cX2_append 4 = .ok (.bipush 8, 2) := by decide +kernel
theorem dX2_append_6 : decode cX2_append 6 = .ok (.iadd, 1) := by decide +kernel
theorem dX2_append_7 : decode cX2_append 7 = .ok (.sipush 400, 3) := by decide +kernel
theorem dX2_append_10 : decode cX2_append 10 = .ok (.if_icmp .le 6, 3) := by decide +kernel
theorem dX2_append_13 : decode cX2_append 13 = .ok (.bipush (-3), 2) := by decide +kernel
theorem dX2_append_15 : decode cX2_append 15 = .ok (.ireturn, 1) := by decide +kernel
theorem dX2_append_16 : decode cX2_append 16 = .ok (.bipush 56, 2) := by decide +kernel
theorem dX2_append_18 : decode cX2_append 18 = .ok (.istore_n 3, 1) := by decide +kernel
theorem dX2_append_19 : decode cX2_append 19 = .ok (.iload_n 3, 1) := by decide +kernel
theorem dX2_append_20 : decode cX2_append 20 = .ok (.ifCond .lt 30, 3) := by decide +kernel
theorem dX2_append_23 : decode cX2_append 23 = .ok (.aload_n 0, 1) := by decide +kernel
theorem dX2_append_24 : decode cX2_append 24 = .ok (.getfield 9, 3) := by decide +kernel
theorem dX2_append_27 : decode cX2_append 27 = .ok (.aload_n 0, 1) := by decide +kernel
theorem dX2_append_28 : decode cX2_append 28 = .ok (.dup, 1) := by decide +kernel
theorem dX2_append_29 : decode cX2_append 29 = .ok (.getfield 19, 3) := by decide +kernel
theorem dX2_append_32 : decode cX2_append 32 = .ok (.dup_x1, 1) := by decide +kernel
theorem dX2_append_33 : decode cX2_append 33 = .ok (.iconst 1, 1) := by decide +kernel
theorem dX2_append_34 : decode cX2_append 34 = .ok (.iadd, 1) := by decide +kernel
theorem dX2_append_35 : decode cX2_append 35 = .ok (.putfield 19, 3) := by decide +kernel
theorem dX2_append_38 : decode cX2_append 38 = .ok (.lload_n 1, 1) := by decide +kernel
theorem dX2_append_39 : decode cX2_append 39 = .ok (.iload_n 3, 1) := by decide +kernel
theorem dX2_append_40 : decode cX2_append 40 = .ok (.lshr, 1) := by decide +kernel
theorem dX2_append_41 : decode cX2_append 41 = .ok (.l2i, 1) := by decide +kernel
theorem dX2_append_42 : decode cX2_append 42 = .ok (.i2b, 1) := by decide +kernel
theorem dX2_append_43 : decode cX2_append 43 = .ok (.bastore, 1) := by decide +kernel
theorem dX2_append_44 : decode cX2_append 44 = .ok (.iinc 3 (-8), 3) := by decide +kernel
theorem dX2_append_47 : decode cX2_append 47 = .ok (.goto (-28), 3) := by decide +kernel
theorem dX2_append_50 : decode cX2_append 50 = .ok (.aload_n 0, 1) := by decide +kernel
theorem dX2_append_51 : decode cX2_append 51 = .ok (.getfield 19, 3) := by decide +kernel
theorem dX2_append_54 : decode cX2_append 54 = .ok (.ireturn, 1) := by decide +kernel
theorem dX2_cut_0 : decode cX2_cut 0 = .ok (.iload_n 1, 1) := by decide +kernel
theorem dX2_cut_1 : decode cX2_cut 1 = .ok (.ifCond .lt 11, 3) := by decide +kernel
theorem dX2_cut_4 : decode cX2_cut 4 = .ok (.iload_n 1, 1) := by decide +kernel
theorem dX2_cut_5 : decode cX2_cut 5 = .ok (.aload_n 0, 1) := by decide +kernel
theorem dX2_cut_6 : decode cX2_cut 6 = .ok (.getfield 19, 3) := by decide +kernel
theorem dX2_cut_9 : decode cX2_cut 9 = .ok (.if_icmp .le 5, 3) := by decide +kernel
theorem dX2_cut_12 : decode cX2_cut 12 = .ok (.iconst (-1), 1) := by decide +kernel
theorem dX2_cut_13 : decode cX2_cut 13 = .ok (.ireturn, 1) := by decide +kernel
theorem dX2_cut_14 : decode cX2_cut 14 = .ok (.aload_n 0, 1) := by decide +kernel
theorem dX2_cut_15 : decode cX2_cut 15 = .ok (.getfield 19, 3) := by decide +kernel
theorem dX2_cut_18 : decode cX2_cut 18 = .ok (.istore_n 2, 1) := by decide +kernel
theorem dX2_cut_19 : decode cX2_cut 19 = .ok (.aload_n 0, 1) := by decide +kernel
theorem dX2_cut_20 : decode cX2_cut 20 = .ok (.iload_n 1, 1) := by decide +kernel
theorem dX2_cut_21 : decode cX2_cut 21 = .ok (.putfield 19, 3) := by decide +kernel
theorem dX2_cut_24 : decode cX2_cut 24 = .ok (.iload_n 2, 1) := by decide +kernel
theorem dX2_cut_25 : decode cX2_cut 25 = .ok (.ireturn, 1) := by decide +kernel
theorem dX2_kindOf_0 : decode cX2_kindOf 0 = .ok (.iload_n 0, 1) := by decide +kernel
theorem dX2_kindOf_1 : decode cX2_kindOf 1 = .ok (.bipush 32, 2) := by decide +kernel
theorem dX2_kindOf_3 : decode cX2_kindOf 3 = .ok (.if_icmp .ne 5, 3) := by decide +kernel
theorem dX2_kindOf_6 : decode cX2_kindOf 6 = .ok (.iconst 1, 1) := by decide +kernel
theorem dX2_kindOf_7 : decode cX2_kindOf 7 = .ok (.ireturn, 1) := by decide +kernel
theorem dX2_kindOf_8 : decode cX2_kindOf 8 = .ok (.iload_n 0, 1) := by decide +kernel
theorem dX2_kindOf_9 : decode cX2_kindOf 9 = .ok (.bipush 97, 2) := by decide +kernel
theorem dX2_kindOf_11 : decode cX2_kindOf 11 = .ok (.if_icmp .lt 11, 3) := by decide +kernel
theorem dX2_kindOf_14 : decode cX2_kindOf 14 = .ok (.iload_n 0, 1) := by decide +kernel
theorem dX2_kindOf_15 : decode cX2_kindOf 15 = .ok (.bipush 122, 2) := by decide +kernel
theorem dX2_kindOf_17 : decode cX2_kindOf 17 = .ok (.if_icmp .gt 5, 3) := by decide +kernel
theorem dX2_kindOf_20 : decode cX2_kindOf 20 = .ok (.iconst 2, 1) := by decide +kernel
theorem dX2_kindOf_21 : decode cX2_kindOf 21 = .ok (.ireturn, 1) := by decide +kernel
theorem dX2_kindOf_22 : decode cX2_kindOf 22 = .ok (.iload_n 0, 1) := by decide +kernel
theorem dX2_kindOf_23 : decode cX2_kindOf 23 = .ok (.bipush 48, 2) := by decide +kernel
theorem dX2_kindOf_25 : decode cX2_kindOf 25 = .ok (.if_icmp .lt 11, 3) := by decide +kernel
theorem dX2_kindOf_28 : decode cX2_kindOf 28 = .ok (.iload_n 0, 1) := by decide +kernel
theorem dX2_kindOf_29 : decode cX2_kindOf 29 = .ok (.bipush 57, 2) := by decide +kernel
theorem dX2_kindOf_31 : decode cX2_kindOf 31 = .ok (.if_icmp .gt 5, 3) := by decide +kernel
theorem dX2_kindOf_34 : decode cX2_kindOf 34 = .ok (.iconst 3, 1) := by decide +kernel
theorem dX2_kindOf_35 : decode cX2_kindOf 35 = .ok (.ireturn, 1) := by decide +kernel
theorem dX2_kindOf_36 : decode cX2_kindOf 36 = .ok (.iload_n 0, 1) := by decide +kernel
theorem dX2_kindOf_37 : decode cX2_kindOf 37 = .ok (.bipush 59, 2) := by decide +kernel
theorem dX2_kindOf_39 : decode cX2_kindOf 39 = .ok (.if_icmp .ne 7, 3) := by decide +kernel
theorem dX2_kindOf_42 : decode cX2_kindOf 42 = .ok (.iconst 4, 1) := by decide +kernel
theorem dX2_kindOf_43 : decode cX2_kindOf 43 = .ok (.goto 4, 3) := by decide +kernel
theorem dX2_kindOf_46 : decode cX2_kindOf 46 = .ok (.iconst 5, 1) := by decide +kernel
theorem dX2_kindOf_47 : decode cX2_kindOf 47 = .ok (.ireturn, 1) := by decide +kernel
theorem dX2_endOfRun_0 : decode cX2_endOfRun 0 = .ok (.iload_n 1, 1) := by decide +kernel
theorem dX2_endOfRun_1 : decode cX2_endOfRun 1 = .ok (.istore_n 3, 1) := by decide +kernel
theorem dX2_endOfRun_2 : decode cX2_endOfRun 2 = .ok (.iload_n 3, 1) := by decide +kernel
theorem dX2_endOfRun_3 : decode cX2_endOfRun 3 = .ok (.aload_n 0, 1) := by decide +kernel
theorem dX2_endOfRun_4 : decode cX2_endOfRun 4 = .ok (.getfield 19, 3) := by decide +kernel
theorem dX2_endOfRun_7 : decode cX2_endOfRun 7 = .ok (.if_icmp .ge 22, 3) := by decide +kernel
theorem dX2_endOfRun_10 : decode cX2_endOfRun 10 = .ok (.aload_n 0, 1) := by decide +kernel
theorem dX2_endOfRun_11 : decode cX2_endOfRun 11 = .ok (.getfield 9, 3) := by decide +kernel
theorem dX2_endOfRun_14 : decode cX2_endOfRun 14 = .ok (.iload_n 3, 1) := by decide +kernel
theorem dX2_endOfRun_15 : decode cX2_endOfRun 15 = .ok (.baload, 1) := by decide +kernel
theorem dX2_endOfRun_16 : decode cX2_endOfRun 16 = .ok (.invokestatic 87, 3) := by decide +kernel
theorem dX2_endOfRun_19 : decode cX2_endOfRun 19 = .ok (.iload_n 2, 1) := by decide +kernel
theorem dX2_endOfRun_20 : decode cX2_endOfRun 20 = .ok (.if_icmp .ne 9, 3) := by decide +kernel
theorem dX2_endOfRun_23 : decode cX2_endOfRun 23 = .ok (.iinc 3 1, 3) := by decide +kernel
theorem dX2_endOfRun_26 : decode cX2_endOfRun 26 = .ok (.goto (-24), 3) := by decide +kernel
theorem dX2_endOfRun_29 : decode cX2_endOfRun 29 = .ok (.iload_n 3, 1) := by decide +kernel
theorem dX2_endOfRun_30 : decode cX2_endOfRun 30 = .ok (.ireturn, 1) := by decide +kernel
def f_X0_append (m : Mm) (O : Nat) (a1 : Int32) (a2 : Int32) (a3 : Int32) (a4 : Int32) : Option (Int32 × Mm) :=
  if (m O 0) < (12 : Int32) then ((ast m (O + 1) 12 (m O 0) a1).bind fun m1 => (ast m1 (O + 2) 12 (m1 O 0) a2).bind fun m2 => (ast m2 (O + 3) 12 (m2 O 0) a3).bind fun m3 => (ast m3 (O + 4) 12 (m3 O 0) a4).bind fun m4 => (ast m4 (O + 5) 12 (m4 O 0) 0).bind fun m5 => (ast m5 (O + 6) 12 (m5 O 0) (-4)).bind fun m6 => letv (m6 O 0) fun x7 => letv (up2 m6 O 0 (x7 + (1 : Int32))) fun m8 => some (x7, m8)) else (some ((-3), m))
set_option maxHeartbeats 4000000 in
set_option maxRecDepth 100000 in
theorem ct_X0_append (F : Nat) {n : Nat} (hn : 113 ≤ n) (P D : Nat) (T : Option Nat) (m : Mm) (O : Nat) (hO : isOr O) (a1 : Int32) (a2 : Int32) (a3 : Int32) (a4 : Int32) : Ct yX0_append cX0_append 5 (some .int) 0 0 [.ref O, .int a1, .int a2, .int a3, .int a4] n n m (RF P D T) (rI (RF P D T) (f_X0_append m O a1 a2 a3 a4)) := by
  refine Ct.ofI (own := RX0) (nm := "append") [(0, .ref O), (1, .int a1), (2, .int a2), (3, .int a3), (4, .int a4)] (by decide) (Nat.le_of_ble_eq_true rfl) rfl rfl rfl ?_
  unfold f_X0_append
  refine J_aload_n 0 0 O dX0_append_0 rfl rfl ?_
  refine J_getI O 0 0 dX0_append_1 fl_0_30 (layc_Or_0 hO) rfl (lt_Or_0 hO hn) ?_
  refine J_bipush 12 dX0_append_4 (by decide) ?_
  refine J_icmp_lt 12 dX0_append_6 (by decide) ?_ ?_
  · refine J_aload_n 0 0 O dX0_append_12 rfl rfl ?_
    refine J_getR O 0 1 (O + 1) dX0_append_13 fl_0_9 (layc_Or_0 hO) rfl (lt_Or_0 hO hn) (rf_Or_0_1 hO) ?_
    refine J_aload_n 0 0 O dX0_append_16 rfl rfl ?_
    refine J_getI O 0 0 dX0_append_17 fl_0_30 (layc_Or_0 hO) rfl (lt_Or_0 hO hn) ?_
    refine J_iload_n 1 1 a1 dX0_append_20 rfl rfl ?_
    refine J_iast (O + 1) 12 dX0_append_21 (lay_Or_1 hO) (lt_Or_1 hO hn) (fun m1 => ?_)
    refine J_aload_n 0 0 O dX0_append_22 rfl rfl ?_
    refine J_getR O 0 2 (O + 2) dX0_append_23 fl_0_15 (layc_Or_0 hO) rfl (lt_Or_0 hO hn) (rf_Or_0_2 hO) ?_
    refine J_aload_n 0 0 O dX0_append_26 rfl rfl ?_
    refine J_getI O 0 0 dX0_append_27 fl_0_30 (layc_Or_0 hO) rfl (lt_Or_0 hO hn) ?_
    refine J_iload_n 2 2 a2 dX0_append_30 rfl rfl ?_
    refine J_iast (O + 2) 12 dX0_append_31 (lay_Or_2 hO) (lt_Or_2 hO hn) (fun m2 => ?_)
    refine J_aload_n 0 0 O dX0_append_32 rfl rfl ?_
    refine J_getR O 0 3 (O + 3) dX0_append_33 fl_0_18 (layc_Or_0 hO) rfl (lt_Or_0 hO hn) (rf_Or_0_3 hO) ?_
    refine J_aload_n 0 0 O dX0_append_36 rfl rfl ?_
    refine J_getI O 0 0 dX0_append_37 fl_0_30 (layc_Or_0 hO) rfl (lt_Or_0 hO hn) ?_
    refine J_iload_n 3 3 a3 dX0_append_40 rfl rfl ?_
    refine J_iast (O + 3) 12 dX0_append_41 (lay_Or_3 hO) (lt_Or_3 hO hn) (fun m3 => ?_)
    refine J_aload_n 0 0 O dX0_append_42 rfl rfl ?_
    refine J_getR O 0 4 (O + 4) dX0_append_43 fl_0_21 (layc_Or_0 hO) rfl (lt_Or_0 hO hn) (rf_Or_0_4 hO) ?_
    refine J_aload_n 0 0 O dX0_append_46 rfl rfl ?_
    refine J_getI O 0 0 dX0_append_47 fl_0_30 (layc_Or_0 hO) rfl (lt_Or_0 hO hn) ?_
    refine J_iload 4 4 a4 dX0_append_50 rfl ?_
    refine J_iast (O + 4) 12 dX0_append_52 (lay_Or_4 hO) (lt_Or_4 hO hn) (fun m4 => ?_)
    refine J_aload_n 0 0 O dX0_append_53 rfl rfl ?_
    refine J_getR O 0 5 (O + 5) dX0_append_54 fl_0_24 (layc_Or_0 hO) rfl (lt_Or_0 hO hn) (rf_Or_0_5 hO) ?_
    refine J_aload_n 0 0 O dX0_append_57 rfl rfl ?_
    refine J_getI O 0 0 dX0_append_58 fl_0_30 (layc_Or_0 hO) rfl (lt_Or_0 hO hn) ?_
    refine J_iconst 0 dX0_append_61 (by decide) ?_
    refine J_iast (O + 5) 12 dX0_append_62 (lay_Or_5 hO) (lt_Or_5 hO hn) (fun m5 => ?_)
    refine J_aload_n 0 0 O dX0_append_63 rfl rfl ?_
    refine J_getR O 0 6 (O + 6) dX0_append_64 fl_0_27 (layc_Or_0 hO) rfl (lt_Or_0 hO hn) (rf_Or_0_6 hO) ?_
    refine J_aload_n 0 0 O dX0_append_67 rfl rfl ?_
    refine J_getI O 0 0 dX0_append_68 fl_0_30 (layc_Or_0 hO) rfl (lt_Or_0 hO hn) ?_
    refine J_bipush (-4) dX0_append_71 (by decide) ?_
    refine J_iast (O + 6) 12 dX0_append_73 (lay_Or_6 hO) (lt_Or_6 hO hn) (fun m6 => ?_)
    refine J_aload_n 0 0 O dX0_append_74 rfl rfl ?_
    refine J_dup dX0_append_75 rfl ?_
    refine J_getI O 0 0 dX0_append_76 fl_0_30 (layc_Or_0 hO) rfl (lt_Or_0 hO hn) ?_
    refine J_let (fun x7 => ?_)
    refine J_dup_x1 dX0_append_79 rfl rfl ?_
    refine J_iconst 1 dX0_append_80 (by decide) ?_
    refine J_iadd dX0_append_81 ?_
    refine J_putI O 0 0 dX0_append_82 fl_0_30 (layc_Or_0 hO) rfl (lt_Or_0 hO hn) rfl rfl rfl (fun m8 => ?_)
    exact J_iretI dX0_append_85 rfl rfl
  · refine J_bipush (-3) dX0_append_9 (by decide) ?_
    exact J_iretI dX0_append_11 rfl rfl
def f_X0_copyFrom (m : Mm) (O : Nat) (O2 : Nat) : Option (Mm) :=
  letv (up2 m O 0 (m O2 0)) fun m1 => (acopy m1 (O2 + 1) 12 0 (O + 1) 12 0 (m1 O 0)).bind fun m2 => (acopy m2 (O2 + 2) 12 0 (O + 2) 12 0 (m2 O 0)).bind fun m3 => (acopy m3 (O2 + 3) 12 0 (O + 3) 12 0 (m3 O 0)).bind fun m4 => (acopy m4 (O2 + 4) 12 0 (O + 4) 12 0 (m4 O 0)).bind fun m5 => (acopy m5 (O2 + 5) 12 0 (O + 5) 12 0 (m5 O 0)).bind fun m6 => (acopy m6 (O2 + 6) 12 0 (O + 6) 12 0 (m6 O 0)).bind fun m7 => some m7
set_option maxHeartbeats 4000000 in
set_option maxRecDepth 100000 in
theorem ct_X0_copyFrom (F : Nat) {n : Nat} (hn : 113 ≤ n) (P D : Nat) (T : Option Nat) (m : Mm) (O : Nat) (hO : isOr O) (O2 : Nat) (hO2 : isOr O2) : Ct yX0_copyFrom cX0_copyFrom 2 none 1 26 [.ref O, .ref O2] n n m (RF P D T) (rV (RF P D T) (f_X0_copyFrom m O O2)) := by
  refine Ct.ofV (own := RX0) (nm := "copyFrom") [(0, .ref O), (1, .ref O2)] (by decide) (Nat.le_of_ble_eq_true rfl) rfl rfl rfl ?_
  unfold f_X0_copyFrom
  refine J_aload_n 0 0 O dX0_copyFrom_0 rfl rfl ?_
  refine J_aload_n 1 1 O2 dX0_copyFrom_1 rfl rfl ?_
  refine J_getI O2 0 0 dX0_copyFrom_2 fl_0_30 (layc_Or_0 hO2) rfl (lt_Or_0 hO2 hn) ?_
  refine J_putI O 0 0 dX0_copyFrom_5 fl_0_30 (layc_Or_0 hO) rfl (lt_Or_0 hO hn) rfl rfl rfl (fun m1 => ?_)
  refine J_aload_n 1 1 O2 dX0_copyFrom_8 rfl rfl ?_
  refine J_getR O2 0 1 (O2 + 1) dX0_copyFrom_9 fl_0_9 (layc_Or_0 hO2) rfl (lt_Or_0 hO2 hn) (rf_Or_0_1 hO2) ?_
  refine J_iconst 0 dX0_copyFrom_12 (by decide) ?_
  refine J_aload_n 0 0 O dX0_copyFrom_13 rfl rfl ?_
  refine J_getR O 0 1 (O + 1) dX0_copyFrom_14 fl_0_9 (layc_Or_0 hO) rfl (lt_Or_0 hO hn) (rf_Or_0_1 hO) ?_
  refine J_iconst 0 dX0_copyFrom_17 (by decide) ?_
  refine J_aload_n 0 0 O dX0_copyFrom_18 rfl rfl ?_
  refine J_getI O 0 0 dX0_copyFrom_19 fl_0_30 (layc_Or_0 hO) rfl (lt_Or_0 hO hn) ?_
  refine J_acopy (O2 + 1) 12 (O + 1) 12 dX0_copyFrom_22 lk_0_34 (lay_Or_1 hO2) (lay_Or_1 hO) (lt_Or_1 hO2 hn) (lt_Or_1 hO hn) (by decide) (Nat.le_of_ble_eq_true rfl) (fun m2 => ?_)
  refine J_aload_n 1 1 O2 dX0_copyFrom_25 rfl rfl ?_
  refine J_getR O2 0 2 (O2 + 2) dX0_copyFrom_26 fl_0_15 (layc_Or_0 hO2) rfl (lt_Or_0 hO2 hn) (rf_Or_0_2 hO2) ?_
  refine J_iconst 0 dX0_copyFrom_29 (by decide) ?_
  refine J_aload_n 0 0 O dX0_copyFrom_30 rfl rfl ?_
  refine J_getR O 0 2 (O + 2) dX0_copyFrom_31 fl_0_15 (layc_Or_0 hO) rfl (lt_Or_0 hO hn) (rf_Or_0_2 hO) ?_
  refine J_iconst 0 dX0_copyFrom_34 (by decide) ?_
  refine J_aload_n 0 0 O dX0_copyFrom_35 rfl rfl ?_
  refine J_getI O 0 0 dX0_copyFrom_36 fl_0_30 (layc_Or_0 hO) rfl (lt_Or_0 hO hn) ?_
  refine J_acopy (O2 + 2) 12 (O + 2) 12 dX0_copyFrom_39 lk_0_34 (lay_Or_2 hO2) (lay_Or_2 hO) (lt_Or_2 hO2 hn) (lt_Or_2 hO hn) (by decide) (Nat.le_of_ble_eq_true rfl) (fun m3 => ?_)
  refine J_aload_n 1 1 O2 dX0_copyFrom_42 rfl rfl ?_
  refine J_getR O2 0 3 (O2 + 3) dX0_copyFrom_43 fl_0_18 (layc_Or_0 hO2) rfl (lt_Or_0 hO2 hn) (rf_Or_0_3 hO2) ?_
  refine J_iconst 0 dX0_copyFrom_46 (by decide) ?_
  refine J_aload_n 0 0 O dX0_copyFrom_47 rfl rfl ?_
  refine J_getR O 0 3 (O + 3) dX0_copyFrom_48 fl_0_18 (layc_Or_0 hO) rfl (lt_Or_0 hO hn) (rf_Or_0_3 hO) ?_
  refine J_iconst 0 dX0_copyFrom_51 (by decide) ?_
  refine J_aload_n 0 0 O dX0_copyFrom_52 rfl rfl ?_
  refine J_getI O 0 0 dX0_copyFrom_53 fl_0_30 (layc_Or_0 hO) rfl (lt_Or_0 hO hn) ?_
  refine J_acopy (O2 + 3) 12 (O + 3) 12 dX0_copyFrom_56 lk_0_34 (lay_Or_3 hO2) (lay_Or_3 hO) (lt_Or_3 hO2 hn) (lt_Or_3 hO hn) (by decide) (Nat.le_of_ble_eq_true rfl) (fun m4 => ?_)
  refine J_aload_n 1 1 O2 dX0_copyFrom_59 rfl rfl ?_
  refine J_getR O2 0 4 (O2 + 4) dX0_copyFrom_60 fl_0_21 (layc_Or_0 hO2) rfl (lt_Or_0 hO2 hn) (rf_Or_0_4 hO2) ?_
  refine J_iconst 0 dX0_copyFrom_63 (by decide) ?_
  refine J_aload_n 0 0 O dX0_copyFrom_64 rfl rfl ?_
  refine J_getR O 0 4 (O + 4) dX0_copyFrom_65 fl_0_21 (layc_Or_0 hO) rfl (lt_Or_0 hO hn) (rf_Or_0_4 hO) ?_
  refine J_iconst 0 dX0_copyFrom_68 (by decide) ?_
  refine J_aload_n 0 0 O dX0_copyFrom_69 rfl rfl ?_
  refine J_getI O 0 0 dX0_copyFrom_70 fl_0_30 (layc_Or_0 hO) rfl (lt_Or_0 hO hn) ?_
  refine J_acopy (O2 + 4) 12 (O + 4) 12 dX0_copyFrom_73 lk_0_34 (lay_Or_4 hO2) (lay_Or_4 hO) (lt_Or_4 hO2 hn) (lt_Or_4 hO hn) (by decide) (Nat.le_of_ble_eq_true rfl) (fun m5 => ?_)
  refine J_aload_n 1 1 O2 dX0_copyFrom_76 rfl rfl ?_
  refine J_getR O2 0 5 (O2 + 5) dX0_copyFrom_77 fl_0_24 (layc_Or_0 hO2) rfl (lt_Or_0 hO2 hn) (rf_Or_0_5 hO2) ?_
  refine J_iconst 0 dX0_copyFrom_80 (by decide) ?_
  refine J_aload_n 0 0 O dX0_copyFrom_81 rfl rfl ?_
  refine J_getR O 0 5 (O + 5) dX0_copyFrom_82 fl_0_24 (layc_Or_0 hO) rfl (lt_Or_0 hO hn) (rf_Or_0_5 hO) ?_
  refine J_iconst 0 dX0_copyFrom_85 (by decide) ?_
  refine J_aload_n 0 0 O dX0_copyFrom_86 rfl rfl ?_
  refine J_getI O 0 0 dX0_copyFrom_87 fl_0_30 (layc_Or_0 hO) rfl (lt_Or_0 hO hn) ?_
  refine J_acopy (O2 + 5) 12 (O + 5) 12 dX0_copyFrom_90 lk_0_34 (lay_Or_5 hO2) (lay_Or_5 hO) (lt_Or_5 hO2 hn) (lt_Or_5 hO hn) (by decide) (Nat.le_of_ble_eq_true rfl) (fun m6 => ?_)
  refine J_aload_n 1 1 O2 dX0_copyFrom_93 rfl rfl ?_
  refine J_getR O2 0 6 (O2 + 6) dX0_copyFrom_94 fl_0_27 (layc_Or_0 hO2) rfl (lt_Or_0 hO2 hn) (rf_Or_0_6 hO2) ?_
  refine J_iconst 0 dX0_copyFrom_97 (by decide) ?_
  refine J_aload_n 0 0 O dX0_copyFrom_98 rfl rfl ?_
  refine J_getR O 0 6 (O + 6) dX0_copyFrom_99 fl_0_27 (layc_Or_0 hO) rfl (lt_Or_0 hO hn) (rf_Or_0_6 hO) ?_
  refine J_iconst 0 dX0_copyFrom_102 (by decide) ?_
  refine J_aload_n 0 0 O dX0_copyFrom_103 rfl rfl ?_
  refine J_getI O 0 0 dX0_copyFrom_104 fl_0_30 (layc_Or_0 hO) rfl (lt_Or_0 hO hn) ?_
  refine J_acopy (O2 + 6) 12 (O + 6) 12 dX0_copyFrom_107 lk_0_34 (lay_Or_6 hO2) (lay_Or_6 hO) (lt_Or_6 hO2 hn) (lt_Or_6 hO hn) (by decide) (Nat.le_of_ble_eq_true rfl) (fun m7 => ?_)
  exact J_vretV dX0_copyFrom_110 rfl rfl
def b_X0_tally_4 (m : Mm) (O : Nat) (a1 : Int32) (t1 : Int32 × Int32) : Option ((Int32 × Int32) ⊕ (Int32)) :=
  if (m O 0) ≤ t1.2 then (some (Sum.inr t1.1)) else ((ald m (O + 5) 12 t1.2).bind fun x3 => (if x3 = a1 then (some (t1.1 + 1)) else (some t1.1) : Option (Int32)).bind fun y4 => some (Sum.inl (y4, t1.2 + 1)))
def f_X0_tally (F : Nat) (m : Mm) (O : Nat) (a1 : Int32) : Option (Int32) :=
  (iter F (b_X0_tally_4 m O a1) ((0, 0) : Int32 × Int32)).bind (fun e2 : Int32 => some e2)
set_option maxHeartbeats 4000000 in
set_option maxRecDepth 100000 in
theorem ct_X0_tally (F : Nat) {n : Nat} (hn : 113 ≤ n) (P D : Nat) (T : Option Nat) (m : Mm) (O : Nat) (hO : isOr O) (a1 : Int32) : Ct yX0_tally cX0_tally 4 (some .int) 0 0 [.ref O, .int a1] n n m (RF P D T) (rP m (RF P D T) (f_X0_tally F m O a1)) := by
  refine Ct.ofP (own := RX0) (nm := "tally") [(0, .ref O), (1, .int a1)] (by decide) (Nat.le_of_ble_eq_true rfl) rfl rfl rfl ?_
  unfold f_X0_tally
  refine J_iconst 0 dX0_tally_0 (by decide) ?_
  refine J_istore_n 2 [(2, .int 0), (0, .ref O), (1, .int a1)] dX0_tally_1 rfl (by decide) rfl ?_
  refine J_iconst 0 dX0_tally_2 (by decide) ?_
  refine J_istore_n 3 [(3, .int 0), (2, .int 0), (0, .ref O), (1, .int a1)] dX0_tally_3 rfl (by decide) rfl ?_
  refine J_lv [2, 3, 1, 0] rfl ?_
  refine J_loop (pc := 4) (fun t1 : Int32 × Int32 => [(0, .ref O), (1, .int a1), (2, .int t1.1), (3, .int t1.2)]) (fun t1 => m) (fun _ => 31) (fun e2 => [(2, .int e2)]) (fun _ => []) (fun e2 => m) ?_ (fun t1 k1 hBt1 hXt1 => ?_) F ((0, 0))
  · refine fun e2 => ?_
    refine J_iload_n 2 0 e2 dX0_tally_31 rfl rfl ?_
    exact J_iretP dX0_tally_32 rfl rfl
  · unfold b_X0_tally_4
    refine J_iload_n 3 3 t1.2 dX0_tally_4 rfl rfl ?_
    refine J_aload_n 0 0 O dX0_tally_5 rfl rfl ?_
    refine J_getI O 0 0 dX0_tally_6 fl_0_30 (layc_Or_0 hO) rfl (lt_Or_0 hO hn) ?_
    refine J_icmp_ge 31 dX0_tally_9 (by decide) ?_ ?_
    · exact J_lv [2] rfl (hXt1 t1.1)
    · refine J_aload_n 0 0 O dX0_tally_12 rfl rfl ?_
      refine J_getR O 0 5 (O + 5) dX0_tally_13 fl_0_24 (layc_Or_0 hO) rfl (lt_Or_0 hO hn) (rf_Or_0_5 hO) ?_
      refine J_iload_n 3 3 t1.2 dX0_tally_16 rfl rfl ?_
      refine J_iald (O + 5) 12 dX0_tally_17 (lay_Or_5 hO) (lt_Or_5 hO hn) (fun x3 => ?_)
      refine J_iload_n 1 1 a1 dX0_tally_18 rfl rfl ?_
      refine J_seqJ 25 (fun y4 : Int32 => [(0, .ref O), (1, .int a1), (2, .int y4), (3, .int t1.2)]) (fun y4 => []) (fun y4 => m) (fun y4 => ?_) (fun k1 hEy4 => ?_)
      · refine J_iinc 3 3 [(3, .int (t1.2 + 1)), (0, .ref O), (1, .int a1), (2, .int y4)] t1.2 (t1.2 + 1) dX0_tally_25 rfl rfl (by decide) rfl ?_
        refine J_goto 4 dX0_tally_28 (by decide) ?_
        exact J_lv [1, 2, 3, 0] rfl (hBt1 (y4, t1.2 + 1))
      · refine J_icmp_ne 25 dX0_tally_19 (by decide) ?_ ?_
        · exact J_lv [0, 1, 2, 3] rfl (hEy4 t1.1)
        · refine J_iinc 2 2 [(2, .int (t1.1 + 1)), (0, .ref O), (1, .int a1), (3, .int t1.2)] t1.1 (t1.1 + 1) dX0_tally_22 rfl rfl (by decide) rfl ?_
          exact J_lv [1, 2, 0, 3] rfl (hEy4 (t1.1 + 1))
def b_X0_failThoseToCome_8 (O : Nat) (t3 : Int32 × Mm) : Option ((Int32 × Mm) ⊕ (Mm)) :=
  if (t3.2 O 0) ≤ t3.1 then (some (Sum.inr t3.2)) else ((ald t3.2 (O + 5) 12 t3.1).bind fun x5 => (if x5 = 0 then ((ast t3.2 (O + 5) 12 t3.1 3).bind fun m7 => some m7) else (some t3.2) : Option (Mm)).bind fun y6 => some (Sum.inl (t3.1 + 1, y6)))
def f_X0_failThoseToCome (F : Nat) (m : Mm) (O : Nat) : Option (Int32 × Mm) :=
  (f_X0_tally F m O 0).bind fun x1 => (iter F (b_X0_failThoseToCome_8 O) ((0, m) : Int32 × Mm)).bind (fun e4 : Mm => some (x1, e4))
set_option maxHeartbeats 4000000 in
set_option maxRecDepth 100000 in
theorem ct_X0_failThoseToCome (F : Nat) {n : Nat} (hn : 113 ≤ n) (P D : Nat) (T : Option Nat) (m : Mm) (O : Nat) (hO : isOr O) : Ct yX0_failThoseToCome cX0_failThoseToCome 3 (some .int) 1 23 [.ref O] n n m (RF P D T) (rI (RF P D T) (f_X0_failThoseToCome F m O)) := by
  refine Ct.ofI (own := RX0) (nm := "failThoseToCome") [(0, .ref O)] (by decide) (Nat.le_of_ble_eq_true rfl) rfl rfl rfl ?_
  unfold f_X0_failThoseToCome
  refine J_aload_n 0 0 O dX0_failThoseToCome_0 rfl rfl ?_
  refine J_iconst 0 dX0_failThoseToCome_1 (by decide) ?_
  refine J_callVP O 0 1 [.int 0] dX0_failThoseToCome_2 mv_X0_tally mv_X0_tallyv lk_0_40 (ct_X0_tally F hn P D T m O hO 0) rfl (layc_Or_0 hO) (by decide) rfl (lt_Or_0 hO hn) ⟨by decide, by decide⟩ (Nat.le_of_ble_eq_true rfl) (fun x1 => ?_)
  refine J_istore_n 1 [(1, .int x1), (0, .ref O)] dX0_failThoseToCome_5 rfl (by decide) rfl ?_
  refine J_iconst 0 dX0_failThoseToCome_6 (by decide) ?_
  refine J_istore_n 2 [(2, .int 0), (1, .int x1), (0, .ref O)] dX0_failThoseToCome_7 rfl (by decide) rfl ?_
  refine J_lv [2, 1, 0] rfl ?_
  refine J_loop (pc := 8) (fun t3 : Int32 × Mm => [(0, .ref O), (1, .int x1), (2, .int t3.1)]) (fun t3 => t3.2) (fun _ => 38) (fun e4 => [(1, .int x1)]) (fun _ => []) (fun e4 => e4) ?_ (fun t3 k1 hBt3 hXt3 => ?_) F ((0, m))
  · refine fun e4 => ?_
    refine J_iload_n 1 0 x1 dX0_failThoseToCome_38 rfl rfl ?_
    exact J_iretI dX0_failThoseToCome_39 rfl rfl
  · unfold b_X0_failThoseToCome_8
    refine J_iload_n 2 2 t3.1 dX0_failThoseToCome_8 rfl rfl ?_
    refine J_aload_n 0 0 O dX0_failThoseToCome_9 rfl rfl ?_
    refine J_getI O 0 0 dX0_failThoseToCome_10 fl_0_30 (layc_Or_0 hO) rfl (lt_Or_0 hO hn) ?_
    refine J_icmp_ge 38 dX0_failThoseToCome_13 (by decide) ?_ ?_
    · exact J_lv [1] rfl (hXt3 t3.2)
    · refine J_aload_n 0 0 O dX0_failThoseToCome_16 rfl rfl ?_
      refine J_getR O 0 5 (O + 5) dX0_failThoseToCome_17 fl_0_24 (layc_Or_0 hO) rfl (lt_Or_0 hO hn) (rf_Or_0_5 hO) ?_
      refine J_iload_n 2 2 t3.1 dX0_failThoseToCome_20 rfl rfl ?_
      refine J_iald (O + 5) 12 dX0_failThoseToCome_21 (lay_Or_5 hO) (lt_Or_5 hO hn) (fun x5 => ?_)
      refine J_seqJ 32 (fun y6 : Mm => [(0, .ref O), (1, .int x1), (2, .int t3.1)]) (fun y6 => []) (fun y6 => y6) (fun y6 => ?_) (fun k1 hEy6 => ?_)
      · refine J_iinc 2 2 [(2, .int (t3.1 + 1)), (0, .ref O), (1, .int x1)] t3.1 (t3.1 + 1) dX0_failThoseToCome_32 rfl rfl (by decide) rfl ?_
        refine J_goto 8 dX0_failThoseToCome_35 (by decide) ?_
        exact J_lv [1, 2, 0] rfl (hBt3 (t3.1 + 1, y6))
      · refine J_if_ne 32 dX0_failThoseToCome_22 (by decide) ?_ ?_
        · exact J_lv [0, 1, 2] rfl (hEy6 t3.2)
        · refine J_aload_n 0 0 O dX0_failThoseToCome_25 rfl rfl ?_
          refine J_getR O 0 5 (O + 5) dX0_failThoseToCome_26 fl_0_24 (layc_Or_0 hO) rfl (lt_Or_0 hO hn) (rf_Or_0_5 hO) ?_
          refine J_iload_n 2 2 t3.1 dX0_failThoseToCome_29 rfl rfl ?_
          refine J_iconst 3 dX0_failThoseToCome_30 (by decide) ?_
          refine J_iast (O + 5) 12 dX0_failThoseToCome_31 (lay_Or_5 hO) (lt_Or_5 hO hn) (fun m7 => ?_)
          exact J_lv [0, 1, 2] rfl (hEy6 m7)
def b_X0_isOnDoor_2 (m : Mm) (O : Nat) (a1 : Int32) (t1 : Int32) : Option ((Int32) ⊕ ((Unit) ⊕ (Unit))) :=
  if (m O 0) ≤ t1 then (some (Sum.inr (Sum.inr (())))) else ((ald m (O + 5) 12 t1).bind fun x4 => if x4 = (1 : Int32) then ((ald m (O + 2) 12 t1).bind fun x5 => if x5 = 0 then ((ald m (O + 3) 12 t1).bind fun x6 => if x6 = a1 then (some (Sum.inr (Sum.inl (())))) else (some (Sum.inl (t1 + 1)))) else ((ald m (O + 2) 12 t1).bind fun x7 => if x7 = (1 : Int32) then ((ald m (O + 3) 12 t1).bind fun x8 => if x8 = a1 then (some (Sum.inr (Sum.inl (())))) else (some (Sum.inl (t1 + 1)))) else (some (Sum.inl (t1 + 1))))) else (some (Sum.inl (t1 + 1))))
def f_X0_isOnDoor (F : Nat) (m : Mm) (O : Nat) (a1 : Int32) : Option (Int32) :=
  (iter F (b_X0_isOnDoor_2 m O a1) (0 : Int32)).bind (Sum.elim (fun e2 : Unit => some 1) (fun e3 : Unit => some 0))
set_option maxHeartbeats 4000000 in
set_option maxRecDepth 100000 in
theorem ct_X0_isOnDoor (F : Nat) {n : Nat} (hn : 113 ≤ n) (P D : Nat) (T : Option Nat) (m : Mm) (O : Nat) (hO : isOr O) (a1 : Int32) : Ct yX0_isOnDoor cX0_isOnDoor 3 (some .boolean) 0 0 [.ref O, .int a1] n n m (RF P D T) (rP m (RF P D T) (f_X0_isOnDoor F m O a1)) := by
  refine Ct.ofP (own := RX0) (nm := "isOnDoor") [(0, .ref O), (1, .int a1)] (by decide) (Nat.le_of_ble_eq_true rfl) rfl rfl rfl ?_
  unfold f_X0_isOnDoor
  refine J_iconst 0 dX0_isOnDoor_0 (by decide) ?_
  refine J_istore_n 2 [(2, .int 0), (0, .ref O), (1, .int a1)] dX0_isOnDoor_1 rfl (by decide) rfl ?_
  refine J_lv [1, 2, 0] rfl ?_
  refine J_loop (pc := 2) (fun t1 : Int32 => [(0, .ref O), (1, .int a1), (2, .int t1)]) (fun t1 => m) (Sum.elim (fun _ => 49) (fun _ => 57)) (Sum.elim (fun e2 : Unit => []) (fun e3 : Unit => [])) (fun _ => []) (Sum.elim (fun e2 : Unit => m) (fun e3 : Unit => m)) ?_ (fun t1 k1 hBt1 hXt1 => ?_) F 0
  · refine sum_all ?_ ?_
    · intro e2
      dsimp only [Sum.elim_inl, Sum.elim_inr]
      refine J_iconst 1 dX0_isOnDoor_49 (by decide) ?_
      exact J_zretP dX0_isOnDoor_50 rfl rfl rfl
    · intro e3
      dsimp only [Sum.elim_inl, Sum.elim_inr]
      refine J_iconst 0 dX0_isOnDoor_57 (by decide) ?_
      exact J_zretP dX0_isOnDoor_58 rfl rfl rfl
  · unfold b_X0_isOnDoor_2
    refine J_iload_n 2 2 t1 dX0_isOnDoor_2 rfl rfl ?_
    refine J_aload_n 0 0 O dX0_isOnDoor_3 rfl rfl ?_
    refine J_getI O 0 0 dX0_isOnDoor_4 fl_0_30 (layc_Or_0 hO) rfl (lt_Or_0 hO hn) ?_
    refine J_icmp_ge 57 dX0_isOnDoor_7 (by decide) ?_ ?_
    · exact J_lv [] rfl (hXt1 (Sum.inr (())))
    · refine J_aload_n 0 0 O dX0_isOnDoor_10 rfl rfl ?_
      refine J_getR O 0 5 (O + 5) dX0_isOnDoor_11 fl_0_24 (layc_Or_0 hO) rfl (lt_Or_0 hO hn) (rf_Or_0_5 hO) ?_
      refine J_iload_n 2 2 t1 dX0_isOnDoor_14 rfl rfl ?_
      refine J_iald (O + 5) 12 dX0_isOnDoor_15 (lay_Or_5 hO) (lt_Or_5 hO hn) (fun x4 => ?_)
      refine J_iconst 1 dX0_isOnDoor_16 (by decide) ?_
      refine J_icmp_ne 51 dX0_isOnDoor_17 (by decide) ?_ ?_
      · refine J_iinc 2 2 [(2, .int (t1 + 1)), (0, .ref O), (1, .int a1)] t1 (t1 + 1) dX0_isOnDoor_51 rfl rfl (by decide) rfl ?_
        refine J_goto 2 dX0_isOnDoor_54 (by decide) ?_
        exact J_lv [1, 2, 0] rfl (hBt1 (t1 + 1))
      · refine J_aload_n 0 0 O dX0_isOnDoor_20 rfl rfl ?_
        refine J_getR O 0 2 (O + 2) dX0_isOnDoor_21 fl_0_15 (layc_Or_0 hO) rfl (lt_Or_0 hO hn) (rf_Or_0_2 hO) ?_
        refine J_iload_n 2 2 t1 dX0_isOnDoor_24 rfl rfl ?_
        refine J_iald (O + 2) 12 dX0_isOnDoor_25 (lay_Or_2 hO) (lt_Or_2 hO hn) (fun x5 => ?_)
        refine J_if_eq 39 dX0_isOnDoor_26 (by decide) ?_ ?_
        · refine J_aload_n 0 0 O dX0_isOnDoor_39 rfl rfl ?_
          refine J_getR O 0 3 (O + 3) dX0_isOnDoor_40 fl_0_18 (layc_Or_0 hO) rfl (lt_Or_0 hO hn) (rf_Or_0_3 hO) ?_
          refine J_iload_n 2 2 t1 dX0_isOnDoor_43 rfl rfl ?_
          refine J_iald (O + 3) 12 dX0_isOnDoor_44 (lay_Or_3 hO) (lt_Or_3 hO hn) (fun x6 => ?_)
          refine J_iload_n 1 1 a1 dX0_isOnDoor_45 rfl rfl ?_
          refine J_icmp_ne 51 dX0_isOnDoor_46 (by decide) ?_ ?_
          · refine J_iinc 2 2 [(2, .int (t1 + 1)), (0, .ref O), (1, .int a1)] t1 (t1 + 1) dX0_isOnDoor_51 rfl rfl (by decide) rfl ?_
            refine J_goto 2 dX0_isOnDoor_54 (by decide) ?_
            exact J_lv [1, 2, 0] rfl (hBt1 (t1 + 1))
          · exact J_lv [] rfl (hXt1 (Sum.inl (())))
        · refine J_aload_n 0 0 O dX0_isOnDoor_29 rfl rfl ?_
          refine J_getR O 0 2 (O + 2) dX0_isOnDoor_30 fl_0_15 (layc_Or_0 hO) rfl (lt_Or_0 hO hn) (rf_Or_0_2 hO) ?_
          refine J_iload_n 2 2 t1 dX0_isOnDoor_33 rfl rfl ?_
          refine J_iald (O + 2) 12 dX0_isOnDoor_34 (lay_Or_2 hO) (lt_Or_2 hO hn) (fun x7 => ?_)
          refine J_iconst 1 dX0_isOnDoor_35 (by decide) ?_
          refine J_icmp_ne 51 dX0_isOnDoor_36 (by decide) ?_ ?_
          · refine J_iinc 2 2 [(2, .int (t1 + 1)), (0, .ref O), (1, .int a1)] t1 (t1 + 1) dX0_isOnDoor_51 rfl rfl (by decide) rfl ?_
            refine J_goto 2 dX0_isOnDoor_54 (by decide) ?_
            exact J_lv [1, 2, 0] rfl (hBt1 (t1 + 1))
          · refine J_aload_n 0 0 O dX0_isOnDoor_39 rfl rfl ?_
            refine J_getR O 0 3 (O + 3) dX0_isOnDoor_40 fl_0_18 (layc_Or_0 hO) rfl (lt_Or_0 hO hn) (rf_Or_0_3 hO) ?_
            refine J_iload_n 2 2 t1 dX0_isOnDoor_43 rfl rfl ?_
            refine J_iald (O + 3) 12 dX0_isOnDoor_44 (lay_Or_3 hO) (lt_Or_3 hO hn) (fun x8 => ?_)
            refine J_iload_n 1 1 a1 dX0_isOnDoor_45 rfl rfl ?_
            refine J_icmp_ne 51 dX0_isOnDoor_46 (by decide) ?_ ?_
            · refine J_iinc 2 2 [(2, .int (t1 + 1)), (0, .ref O), (1, .int a1)] t1 (t1 + 1) dX0_isOnDoor_51 rfl rfl (by decide) rfl ?_
              refine J_goto 2 dX0_isOnDoor_54 (by decide) ?_
              exact J_lv [1, 2, 0] rfl (hBt1 (t1 + 1))
            · exact J_lv [] rfl (hXt1 (Sum.inl (())))
def b_X0_isOnHole_2 (m : Mm) (O : Nat) (a1 : Int32) (t1 : Int32) : Option ((Int32) ⊕ ((Unit) ⊕ (Unit))) :=
  if (m O 0) ≤ t1 then (some (Sum.inr (Sum.inr (())))) else ((ald m (O + 5) 12 t1).bind fun x4 => if x4 = (1 : Int32) then ((ald m (O + 2) 12 t1).bind fun x5 => if x5 = (2 : Int32) then ((ald m (O + 3) 12 t1).bind fun x6 => if x6 = a1 then (some (Sum.inr (Sum.inl (())))) else (some (Sum.inl (t1 + 1)))) else (some (Sum.inl (t1 + 1)))) else (some (Sum.inl (t1 + 1))))
def f_X0_isOnHole (F : Nat) (m : Mm) (O : Nat) (a1 : Int32) : Option (Int32) :=
  (iter F (b_X0_isOnHole_2 m O a1) (0 : Int32)).bind (Sum.elim (fun e2 : Unit => some 1) (fun e3 : Unit => some 0))
set_option maxHeartbeats 4000000 in
set_option maxRecDepth 100000 in
theorem ct_X0_isOnHole (F : Nat) {n : Nat} (hn : 113 ≤ n) (P D : Nat) (T : Option Nat) (m : Mm) (O : Nat) (hO : isOr O) (a1 : Int32) : Ct yX0_isOnHole cX0_isOnHole 3 (some .boolean) 0 0 [.ref O, .int a1] n n m (RF P D T) (rP m (RF P D T) (f_X0_isOnHole F m O a1)) := by
  refine Ct.ofP (own := RX0) (nm := "isOnHole") [(0, .ref O), (1, .int a1)] (by decide) (Nat.le_of_ble_eq_true rfl) rfl rfl rfl ?_
  unfold f_X0_isOnHole
  refine J_iconst 0 dX0_isOnHole_0 (by decide) ?_
  refine J_istore_n 2 [(2, .int 0), (0, .ref O), (1, .int a1)] dX0_isOnHole_1 rfl (by decide) rfl ?_
  refine J_lv [1, 2, 0] rfl ?_
  refine J_loop (pc := 2) (fun t1 : Int32 => [(0, .ref O), (1, .int a1), (2, .int t1)]) (fun t1 => m) (Sum.elim (fun _ => 40) (fun _ => 48)) (Sum.elim (fun e2 : Unit => []) (fun e3 : Unit => [])) (fun _ => []) (Sum.elim (fun e2 : Unit => m) (fun e3 : Unit => m)) ?_ (fun t1 k1 hBt1 hXt1 => ?_) F 0
  · refine sum_all ?_ ?_
    · intro e2
      dsimp only [Sum.elim_inl, Sum.elim_inr]
      refine J_iconst 1 dX0_isOnHole_40 (by decide) ?_
      exact J_zretP dX0_isOnHole_41 rfl rfl rfl
    · intro e3
      dsimp only [Sum.elim_inl, Sum.elim_inr]
      refine J_iconst 0 dX0_isOnHole_48 (by decide) ?_
      exact J_zretP dX0_isOnHole_49 rfl rfl rfl
  · unfold b_X0_isOnHole_2
    refine J_iload_n 2 2 t1 dX0_isOnHole_2 rfl rfl ?_
    refine J_aload_n 0 0 O dX0_isOnHole_3 rfl rfl ?_
    refine J_getI O 0 0 dX0_isOnHole_4 fl_0_30 (layc_Or_0 hO) rfl (lt_Or_0 hO hn) ?_
    refine J_icmp_ge 48 dX0_isOnHole_7 (by decide) ?_ ?_
    · exact J_lv [] rfl (hXt1 (Sum.inr (())))
    · refine J_aload_n 0 0 O dX0_isOnHole_10 rfl rfl ?_
      refine J_getR O 0 5 (O + 5) dX0_isOnHole_11 fl_0_24 (layc_Or_0 hO) rfl (lt_Or_0 hO hn) (rf_Or_0_5 hO) ?_
      refine J_iload_n 2 2 t1 dX0_isOnHole_14 rfl rfl ?_
      refine J_iald (O + 5) 12 dX0_isOnHole_15 (lay_Or_5 hO) (lt_Or_5 hO hn) (fun x4 => ?_)
      refine J_iconst 1 dX0_isOnHole_16 (by decide) ?_
      refine J_icmp_ne 42 dX0_isOnHole_17 (by decide) ?_ ?_
      · refine J_iinc 2 2 [(2, .int (t1 + 1)), (0, .ref O), (1, .int a1)] t1 (t1 + 1) dX0_isOnHole_42 rfl rfl (by decide) rfl ?_
        refine J_goto 2 dX0_isOnHole_45 (by decide) ?_
        exact J_lv [1, 2, 0] rfl (hBt1 (t1 + 1))
      · refine J_aload_n 0 0 O dX0_isOnHole_20 rfl rfl ?_
        refine J_getR O 0 2 (O + 2) dX0_isOnHole_21 fl_0_15 (layc_Or_0 hO) rfl (lt_Or_0 hO hn) (rf_Or_0_2 hO) ?_
        refine J_iload_n 2 2 t1 dX0_isOnHole_24 rfl rfl ?_
        refine J_iald (O + 2) 12 dX0_isOnHole_25 (lay_Or_2 hO) (lt_Or_2 hO hn) (fun x5 => ?_)
        refine J_iconst 2 dX0_isOnHole_26 (by decide) ?_
        refine J_icmp_ne 42 dX0_isOnHole_27 (by decide) ?_ ?_
        · refine J_iinc 2 2 [(2, .int (t1 + 1)), (0, .ref O), (1, .int a1)] t1 (t1 + 1) dX0_isOnHole_42 rfl rfl (by decide) rfl ?_
          refine J_goto 2 dX0_isOnHole_45 (by decide) ?_
          exact J_lv [1, 2, 0] rfl (hBt1 (t1 + 1))
        · refine J_aload_n 0 0 O dX0_isOnHole_30 rfl rfl ?_
          refine J_getR O 0 3 (O + 3) dX0_isOnHole_31 fl_0_18 (layc_Or_0 hO) rfl (lt_Or_0 hO hn) (rf_Or_0_3 hO) ?_
          refine J_iload_n 2 2 t1 dX0_isOnHole_34 rfl rfl ?_
          refine J_iald (O + 3) 12 dX0_isOnHole_35 (lay_Or_3 hO) (lt_Or_3 hO hn) (fun x6 => ?_)
          refine J_iload_n 1 1 a1 dX0_isOnHole_36 rfl rfl ?_
          refine J_icmp_ne 42 dX0_isOnHole_37 (by decide) ?_ ?_
          · refine J_iinc 2 2 [(2, .int (t1 + 1)), (0, .ref O), (1, .int a1)] t1 (t1 + 1) dX0_isOnHole_42 rfl rfl (by decide) rfl ?_
            refine J_goto 2 dX0_isOnHole_45 (by decide) ?_
            exact J_lv [1, 2, 0] rfl (hBt1 (t1 + 1))
          · exact J_lv [] rfl (hXt1 (Sum.inl (())))
def f_X1_clear (m : Mm) (Q : Nat) : Option (Mm) :=
  letv (up2 m Q 0 0) fun m1 => letv (up2 m1 Q 1 0) fun m2 => letv (up2 m2 Q 2 0) fun m3 => letv (up2 m3 Q 3 0) fun m4 => (ast m4 (Q + 16) 5 0 1).bind fun m5 => (ast m5 (Q + 16) 5 1 400).bind fun m6 => (ast m6 (Q + 16) 5 2 40).bind fun m7 => (ast m7 (Q + 16) 5 3 60).bind fun m8 => (ast m8 (Q + 16) 5 4 0).bind fun m9 => some m9
set_option maxHeartbeats 4000000 in
set_option maxRecDepth 100000 in
theorem ct_X1_clear (F : Nat) {n : Nat} (hn : 113 ≤ n) (P D : Nat) (T : Option Nat) (m : Mm) (Q : Nat) (hQ : isPl Q) : Ct yX1_clear cX1_clear 1 none 0 0 [.ref Q] n n m (RF P D T) (rV (RF P D T) (f_X1_clear m Q)) := by
  refine Ct.ofV (own := RX1) (nm := "clear") [(0, .ref Q)] (by decide) (Nat.le_of_ble_eq_true rfl) rfl rfl rfl ?_
  unfold f_X1_clear
  refine J_aload_n 0 0 Q dX1_clear_0 rfl rfl ?_
  refine J_iconst 0 dX1_clear_1 (by decide) ?_
  refine J_putI Q 1 0 dX1_clear_2 fl_1_60 (layc_Pl_0 hQ) rfl (lt_Pl_0 hQ hn) rfl rfl rfl (fun m1 => ?_)
  refine J_aload_n 0 0 Q dX1_clear_5 rfl rfl ?_
  refine J_iconst 0 dX1_clear_6 (by decide) ?_
  refine J_putI Q 1 1 dX1_clear_7 fl_1_64 (layc_Pl_0 hQ) rfl (lt_Pl_0 hQ hn) rfl rfl rfl (fun m2 => ?_)
  refine J_aload_n 0 0 Q dX1_clear_10 rfl rfl ?_
  refine J_iconst 0 dX1_clear_11 (by decide) ?_
  refine J_putI Q 1 2 dX1_clear_12 fl_1_67 (layc_Pl_0 hQ) rfl (lt_Pl_0 hQ hn) rfl rfl rfl (fun m3 => ?_)
  refine J_aload_n 0 0 Q dX1_clear_15 rfl rfl ?_
  refine J_iconst 0 dX1_clear_16 (by decide) ?_
  refine J_putI Q 1 3 dX1_clear_17 fl_1_70 (layc_Pl_0 hQ) rfl (lt_Pl_0 hQ hn) rfl rfl rfl (fun m4 => ?_)
  refine J_aload_n 0 0 Q dX1_clear_20 rfl rfl ?_
  refine J_getR Q 1 19 (Q + 16) dX1_clear_21 fl_1_57 (layc_Pl_0 hQ) rfl (lt_Pl_0 hQ hn) (rf_Pl_0_19 hQ) ?_
  refine J_iconst 0 dX1_clear_24 (by decide) ?_
  refine J_iconst 1 dX1_clear_25 (by decide) ?_
  refine J_iast (Q + 16) 5 dX1_clear_26 (lay_Pl_16 hQ) (lt_Pl_16 hQ hn) (fun m5 => ?_)
  refine J_aload_n 0 0 Q dX1_clear_27 rfl rfl ?_
  refine J_getR Q 1 19 (Q + 16) dX1_clear_28 fl_1_57 (layc_Pl_0 hQ) rfl (lt_Pl_0 hQ hn) (rf_Pl_0_19 hQ) ?_
  refine J_iconst 1 dX1_clear_31 (by decide) ?_
  refine J_sipush 400 dX1_clear_32 (by decide) ?_
  refine J_iast (Q + 16) 5 dX1_clear_35 (lay_Pl_16 hQ) (lt_Pl_16 hQ hn) (fun m6 => ?_)
  refine J_aload_n 0 0 Q dX1_clear_36 rfl rfl ?_
  refine J_getR Q 1 19 (Q + 16) dX1_clear_37 fl_1_57 (layc_Pl_0 hQ) rfl (lt_Pl_0 hQ hn) (rf_Pl_0_19 hQ) ?_
  refine J_iconst 2 dX1_clear_40 (by decide) ?_
  refine J_bipush 40 dX1_clear_41 (by decide) ?_
  refine J_iast (Q + 16) 5 dX1_clear_43 (lay_Pl_16 hQ) (lt_Pl_16 hQ hn) (fun m7 => ?_)
  refine J_aload_n 0 0 Q dX1_clear_44 rfl rfl ?_
  refine J_getR Q 1 19 (Q + 16) dX1_clear_45 fl_1_57 (layc_Pl_0 hQ) rfl (lt_Pl_0 hQ hn) (rf_Pl_0_19 hQ) ?_
  refine J_iconst 3 dX1_clear_48 (by decide) ?_
  refine J_bipush 60 dX1_clear_49 (by decide) ?_
  refine J_iast (Q + 16) 5 dX1_clear_51 (lay_Pl_16 hQ) (lt_Pl_16 hQ hn) (fun m8 => ?_)
  refine J_aload_n 0 0 Q dX1_clear_52 rfl rfl ?_
  refine J_getR Q 1 19 (Q + 16) dX1_clear_53 fl_1_57 (layc_Pl_0 hQ) rfl (lt_Pl_0 hQ hn) (rf_Pl_0_19 hQ) ?_
  refine J_iconst 4 dX1_clear_56 (by decide) ?_
  refine J_iconst 0 dX1_clear_57 (by decide) ?_
  refine J_iast (Q + 16) 5 dX1_clear_58 (lay_Pl_16 hQ) (lt_Pl_16 hQ hn) (fun m9 => ?_)
  exact J_vretV dX1_clear_59 rfl rfl
def b_X2_append_19 (a1 : Int64) (t1 : Int32 × Mm) : Option ((Int32 × Mm) ⊕ (Mm)) :=
  if t1.1 < 0 then (some (Sum.inr t1.2)) else (letv (t1.2 1 1) fun x3 => letv (up2 t1.2 1 1 (x3 + (1 : Int32))) fun m4 => (ast m4 2 400 x3 (vp_nar .byte (((a1 >>> (t1.1.toInt64 &&& 63)).toInt32).toInt8.toInt32))).bind fun m5 => some (Sum.inl (t1.1 + (-8), m5)))
def f_X2_append (F : Nat) (m : Mm) (a1 : Int64) : Option (Int32 × Mm) :=
  if ((m 1 1) + (8 : Int32)) ≤ (400 : Int32) then ((iter F (b_X2_append_19 a1) ((56, m) : Int32 × Mm)).bind (fun e2 : Mm => some (e2 1 1, e2))) else (some ((-3), m))
set_option maxHeartbeats 4000000 in
set_option maxRecDepth 100000 in
theorem ct_X2_append (F : Nat) {n : Nat} (hn : 113 ≤ n) (P D : Nat) (T : Option Nat) (m : Mm) (a1 : Int64) : Ct yX2_append cX2_append 4 (some .int) 0 0 [.ref 1, .long a1] n n m (RF P D T) (rI (RF P D T) (f_X2_append F m a1)) := by
  refine Ct.ofI (own := RX2) (nm := "append") [(0, .ref 1), (1, .long a1)] (by decide) (Nat.le_of_ble_eq_true rfl) rfl rfl rfl ?_
  unfold f_X2_append
  refine J_aload_n 0 0 1 dX2_append_0 rfl rfl ?_
  refine J_getI 1 2 1 dX2_append_1 fl_2_19 rfl rfl (Nat.lt_of_lt_of_le (Nat.le_of_ble_eq_true rfl) hn) ?_
  refine J_bipush 8 dX2_append_4 (by decide) ?_
  refine J_iadd dX2_append_6 ?_
  refine J_sipush 400 dX2_append_7 (by decide) ?_
  refine J_icmp_le 16 dX2_append_10 (by decide) ?_ ?_
  · refine J_bipush 56 dX2_append_16 (by decide) ?_
    refine J_istore_n 3 [(3, .int 56), (0, .ref 1), (1, .long a1)] dX2_append_18 rfl (by decide) rfl ?_
    refine J_lv [1, 2, 0] rfl ?_
    refine J_loop (pc := 19) (fun t1 : Int32 × Mm => [(0, .ref 1), (1, .long a1), (3, .int t1.1)]) (fun t1 => t1.2) (fun _ => 50) (fun e2 => [(0, .ref 1)]) (fun _ => []) (fun e2 => e2) ?_ (fun t1 k1 hBt1 hXt1 => ?_) F ((56, m))
    · refine fun e2 => ?_
      refine J_aload_n 0 0 1 dX2_append_50 rfl rfl ?_
      refine J_getI 1 2 1 dX2_append_51 fl_2_19 rfl rfl (Nat.lt_of_lt_of_le (Nat.le_of_ble_eq_true rfl) hn) ?_
      exact J_iretI dX2_append_54 rfl rfl
    · unfold b_X2_append_19
      refine J_iload_n 3 2 t1.1 dX2_append_19 rfl rfl ?_
      refine J_if_lt 50 dX2_append_20 (by decide) ?_ ?_
      · exact J_lv [0] rfl (hXt1 t1.2)
      · refine J_aload_n 0 0 1 dX2_append_23 rfl rfl ?_
        refine J_getR 1 2 0 2 dX2_append_24 fl_2_9 rfl rfl (Nat.lt_of_lt_of_le (Nat.le_of_ble_eq_true rfl) hn) rfl ?_
        refine J_aload_n 0 0 1 dX2_append_27 rfl rfl ?_
        refine J_dup dX2_append_28 rfl ?_
        refine J_getI 1 2 1 dX2_append_29 fl_2_19 rfl rfl (Nat.lt_of_lt_of_le (Nat.le_of_ble_eq_true rfl) hn) ?_
        refine J_let (fun x3 => ?_)
        refine J_dup_x1 dX2_append_32 rfl rfl ?_
        refine J_iconst 1 dX2_append_33 (by decide) ?_
        refine J_iadd dX2_append_34 ?_
        refine J_putI 1 2 1 dX2_append_35 fl_2_19 rfl rfl (Nat.lt_of_lt_of_le (Nat.le_of_ble_eq_true rfl) hn) rfl rfl rfl (fun m4 => ?_)
        refine J_lload_n 1 1 a1 dX2_append_38 rfl rfl ?_
        refine J_iload_n 3 2 t1.1 dX2_append_39 rfl rfl ?_
        refine J_lshr dX2_append_40 ?_
        refine J_l2i dX2_append_41 ?_
        refine J_i2b dX2_append_42 ?_
        refine J_bast 2 400 dX2_append_43 rfl (Nat.lt_of_lt_of_le (Nat.le_of_ble_eq_true rfl) hn) (fun m5 => ?_)
        refine J_iinc 3 2 [(3, .int (t1.1 + (-8))), (0, .ref 1), (1, .long a1)] t1.1 (t1.1 + (-8)) dX2_append_44 rfl rfl (by decide) rfl ?_
        refine J_goto 19 dX2_append_47 (by decide) ?_
        exact J_lv [1, 2, 0] rfl (hBt1 (t1.1 + (-8), m5))
  · refine J_bipush (-3) dX2_append_13 (by decide) ?_
    exact J_iretI dX2_append_15 rfl rfl
def f_X2_cut (m : Mm) (a1 : Int32) : Option (Int32 × Mm) :=
  if a1 < 0 then (some ((-1), m)) else (if a1 ≤ (m 1 1) then (letv (m 1 1) fun x1 => letv (up2 m 1 1 a1) fun m2 => some (x1, m2)) else (some ((-1), m)))
set_option maxHeartbeats 4000000 in
set_option maxRecDepth 100000 in
theorem ct_X2_cut (F : Nat) {n : Nat} (hn : 113 ≤ n) (P D : Nat) (T : Option Nat) (m : Mm) (a1 : Int32) : Ct yX2_cut cX2_cut 3 (some .int) 0 0 [.ref 1, .int a1] n n m (RF P D T) (rI (RF P D T) (f_X2_cut m a1)) := by
  refine Ct.ofI (own := RX2) (nm := "cut") [(0, .ref 1), (1, .int a1)] (by decide) (Nat.le_of_ble_eq_true rfl) rfl rfl rfl ?_
  unfold f_X2_cut
  refine J_iload_n 1 1 a1 dX2_cut_0 rfl rfl ?_
  refine J_if_lt 12 dX2_cut_1 (by decide) ?_ ?_
  · refine J_iconst (-1) dX2_cut_12 (by decide) ?_
    exact J_iretI dX2_cut_13 rfl rfl
  · refine J_iload_n 1 1 a1 dX2_cut_4 rfl rfl ?_
    refine J_aload_n 0 0 1 dX2_cut_5 rfl rfl ?_
    refine J_getI 1 2 1 dX2_cut_6 fl_2_19 rfl rfl (Nat.lt_of_lt_of_le (Nat.le_of_ble_eq_true rfl) hn) ?_
    refine J_icmp_le 14 dX2_cut_9 (by decide) ?_ ?_
    · refine J_aload_n 0 0 1 dX2_cut_14 rfl rfl ?_
      refine J_getI 1 2 1 dX2_cut_15 fl_2_19 rfl rfl (Nat.lt_of_lt_of_le (Nat.le_of_ble_eq_true rfl) hn) ?_
      refine J_let (fun x1 => ?_)
      refine J_istore_n 2 [(2, .int x1), (0, .ref 1), (1, .int a1)] dX2_cut_18 rfl (by decide) rfl ?_
      refine J_aload_n 0 1 1 dX2_cut_19 rfl rfl ?_
      refine J_iload_n 1 2 a1 dX2_cut_20 rfl rfl ?_
      refine J_putI 1 2 1 dX2_cut_21 fl_2_19 rfl rfl (Nat.lt_of_lt_of_le (Nat.le_of_ble_eq_true rfl) hn) rfl rfl rfl (fun m2 => ?_)
      refine J_iload_n 2 0 x1 dX2_cut_24 rfl rfl ?_
      exact J_iretI dX2_cut_25 rfl rfl
    · refine J_iconst (-1) dX2_cut_12 (by decide) ?_
      exact J_iretI dX2_cut_13 rfl rfl
def f_X2_kindOf (a0 : Int32) : Option (Int32) :=
  if a0 = (32 : Int32) then (some 1) else (letv (fun y1 : Unit => if a0 < (48 : Int32) then (if a0 = (59 : Int32) then (some 4) else (some 5)) else (if (57 : Int32) < a0 then (if a0 = (59 : Int32) then (some 4) else (some 5)) else (some 3))) fun j2 => if a0 < (97 : Int32) then (j2 ()) else (if (122 : Int32) < a0 then (j2 ()) else (some 2)))
set_option maxHeartbeats 4000000 in
set_option maxRecDepth 100000 in
theorem ct_X2_kindOf (F : Nat) {n : Nat} (hn : 113 ≤ n) (P D : Nat) (T : Option Nat) (m : Mm) (a0 : Int32) : Ct yX2_kindOf cX2_kindOf 1 (some .int) 0 0 [.int a0] n n m (RF P D T) (rP m (RF P D T) (f_X2_kindOf a0)) := by
  refine Ct.ofP (own := RX2) (nm := "kindOf") [(0, .int a0)] (by decide) (Nat.le_of_ble_eq_true rfl) rfl rfl rfl ?_
  unfold f_X2_kindOf
  refine J_iload_n 0 0 a0 dX2_kindOf_0 rfl rfl ?_
  refine J_bipush 32 dX2_kindOf_1 (by decide) ?_
  refine J_icmp_ne 8 dX2_kindOf_3 (by decide) ?_ ?_
  · refine J_iload_n 0 0 a0 dX2_kindOf_8 rfl rfl ?_
    refine J_bipush 97 dX2_kindOf_9 (by decide) ?_
    refine J_letJ 22 (fun y1 : Unit => [(0, .int a0)]) (fun y1 => []) (fun y1 => m) (fun y1 => ?_) (fun j2 hEj2 => ?_)
    · refine J_iload_n 0 0 a0 dX2_kindOf_22 rfl rfl ?_
      refine J_bipush 48 dX2_kindOf_23 (by decide) ?_
      refine J_icmp_lt 36 dX2_kindOf_25 (by decide) ?_ ?_
      · refine J_iload_n 0 0 a0 dX2_kindOf_36 rfl rfl ?_
        refine J_bipush 59 dX2_kindOf_37 (by decide) ?_
        refine J_icmp_ne 46 dX2_kindOf_39 (by decide) ?_ ?_
        · refine J_iconst 5 dX2_kindOf_46 (by decide) ?_
          exact J_iretP dX2_kindOf_47 rfl rfl
        · refine J_iconst 4 dX2_kindOf_42 (by decide) ?_
          refine J_goto 47 dX2_kindOf_43 (by decide) ?_
          exact J_iretP dX2_kindOf_47 rfl rfl
      · refine J_iload_n 0 0 a0 dX2_kindOf_28 rfl rfl ?_
        refine J_bipush 57 dX2_kindOf_29 (by decide) ?_
        refine J_icmp_gt 36 dX2_kindOf_31 (by decide) ?_ ?_
        · refine J_iload_n 0 0 a0 dX2_kindOf_36 rfl rfl ?_
          refine J_bipush 59 dX2_kindOf_37 (by decide) ?_
          refine J_icmp_ne 46 dX2_kindOf_39 (by decide) ?_ ?_
          · refine J_iconst 5 dX2_kindOf_46 (by decide) ?_
            exact J_iretP dX2_kindOf_47 rfl rfl
          · refine J_iconst 4 dX2_kindOf_42 (by decide) ?_
            refine J_goto 47 dX2_kindOf_43 (by decide) ?_
            exact J_iretP dX2_kindOf_47 rfl rfl
        · refine J_iconst 3 dX2_kindOf_34 (by decide) ?_
          exact J_iretP dX2_kindOf_35 rfl rfl
    · refine J_icmp_lt 22 dX2_kindOf_11 (by decide) ?_ ?_
      · exact J_lv [0] rfl (hEj2 ())
      · refine J_iload_n 0 0 a0 dX2_kindOf_14 rfl rfl ?_
        refine J_bipush 122 dX2_kindOf_15 (by decide) ?_
        refine J_icmp_gt 22 dX2_kindOf_17 (by decide) ?_ ?_
        · exact J_lv [0] rfl (hEj2 ())
        · refine J_iconst 2 dX2_kindOf_20 (by decide) ?_
          exact J_iretP dX2_kindOf_21 rfl rfl
  · refine J_iconst 1 dX2_kindOf_6 (by decide) ?_
    exact J_iretP dX2_kindOf_7 rfl rfl
def b_X2_endOfRun_2 (m : Mm) (a2 : Int32) (t1 : Int32) : Option ((Int32) ⊕ (Int32)) :=
  if (m 1 1) ≤ t1 then (some (Sum.inr t1)) else ((ald m 2 400 t1).bind fun x3 => (f_X2_kindOf x3).bind fun x4 => if x4 = a2 then (some (Sum.inl (t1 + 1))) else (some (Sum.inr t1)))
def f_X2_endOfRun (F : Nat) (m : Mm) (a1 : Int32) (a2 : Int32) : Option (Int32) :=
  (iter F (b_X2_endOfRun_2 m a2) (a1 : Int32)).bind (fun e2 : Int32 => some e2)
set_option maxHeartbeats 4000000 in
set_option maxRecDepth 100000 in
theorem ct_X2_endOfRun (F : Nat) {n : Nat} (hn : 113 ≤ n) (P D : Nat) (T : Option Nat) (m : Mm) (a1 : Int32) (a2 : Int32) : Ct yX2_endOfRun cX2_endOfRun 4 (some .int) 1 20 [.ref 1, .int a1, .int a2] n n m (RF P D T) (rP m (RF P D T) (f_X2_endOfRun F m a1 a2)) := by
  refine Ct.ofP (own := RX2) (nm := "endOfRun") [(0, .ref 1), (1, .int a1), (2, .int a2)] (by decide) (Nat.le_of_ble_eq_true rfl) rfl rfl rfl ?_
  unfold f_X2_endOfRun
  refine J_iload_n 1 1 a1 dX2_endOfRun_0 rfl rfl ?_
  refine J_istore_n 3 [(3, .int a1), (0, .ref 1), (1, .int a1), (2, .int a2)] dX2_endOfRun_1 rfl (by decide) rfl ?_
  refine J_lv [1, 3, 0] rfl ?_
  refine J_loop (pc := 2) (fun t1 : Int32 => [(0, .ref 1), (2, .int a2), (3, .int t1)]) (fun t1 => m) (fun _ => 29) (fun e2 => [(3, .int e2)]) (fun _ => []) (fun e2 => m) ?_ (fun t1 k1 hBt1 hXt1 => ?_) F a1
  · refine fun e2 => ?_
    refine J_iload_n 3 0 e2 dX2_endOfRun_29 rfl rfl ?_
    exact J_iretP dX2_endOfRun_30 rfl rfl
  · unfold b_X2_endOfRun_2
    refine J_iload_n 3 2 t1 dX2_endOfRun_2 rfl rfl ?_
    refine J_aload_n 0 0 1 dX2_endOfRun_3 rfl rfl ?_
    refine J_getI 1 2 1 dX2_endOfRun_4 fl_2_19 rfl rfl (Nat.lt_of_lt_of_le (Nat.le_of_ble_eq_true rfl) hn) ?_
    refine J_icmp_ge 29 dX2_endOfRun_7 (by decide) ?_ ?_
    · exact J_lv [2] rfl (hXt1 t1)
    · refine J_aload_n 0 0 1 dX2_endOfRun_10 rfl rfl ?_
      refine J_getR 1 2 0 2 dX2_endOfRun_11 fl_2_9 rfl rfl (Nat.lt_of_lt_of_le (Nat.le_of_ble_eq_true rfl) hn) rfl ?_
      refine J_iload_n 3 2 t1 dX2_endOfRun_14 rfl rfl ?_
      refine J_bald 2 400 dX2_endOfRun_15 rfl (Nat.lt_of_lt_of_le (Nat.le_of_ble_eq_true rfl) hn) (fun x3 => ?_)
      refine J_callSP 1 [.int x3] dX2_endOfRun_16 mv_X2_kindOf mv_X2_kindOfs lk_2_87 (ct_X2_kindOf F hn P D T m x3) rfl ⟨by decide, by decide⟩ (Nat.le_of_ble_eq_true rfl) (fun x4 => ?_)
      refine J_iload_n 2 1 a2 dX2_endOfRun_19 rfl rfl ?_
      refine J_icmp_ne 29 dX2_endOfRun_20 (by decide) ?_ ?_
      · exact J_lv [2] rfl (hXt1 t1)
      · refine J_iinc 3 2 [(3, .int (t1 + 1)), (0, .ref 1), (2, .int a2)] t1 (t1 + 1) dX2_endOfRun_23 rfl rfl (by decide) rfl ?_
        refine J_goto 2 dX2_endOfRun_26 (by decide) ?_
        exact J_lv [1, 2, 0] rfl (hBt1 (t1 + 1))

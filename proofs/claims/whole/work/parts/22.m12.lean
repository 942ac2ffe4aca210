theorem fl_9_109 : FL RX9 109 9 22 := ⟨by decide, by decide, tb 1044 (by decide +kernel) rfl⟩
theorem fl_9_118 : FL RX9 118 9 27 := ⟨by decide, by decide, tb 1049 (by decide +kernel) rfl⟩
theorem fl_9_121 : FL RX9 121 9 24 := ⟨by decide, by decide, tb 1046 (by decide +kernel) rfl⟩
theorem fl_9_124 : FL RX9 124 9 28 := ⟨by decide, by decide, tb 1050 (by decide +kernel) rfl⟩
theorem fl_9_127 : FL RX9 127 9 23 := ⟨by decide, by decide, tb 1045 (by decide +kernel) rfl⟩
theorem fl_9_138 : FL RX9 138 9 25 := ⟨by decide, by decide, tb 1047 (by decide +kernel) rfl⟩
theorem fl_9_149 : FL RX9 149 9 26 := ⟨by decide, by decide, tb 1048 (by decide +kernel) rfl⟩
theorem fl_9_50 : FL RX9 50 9 21 := ⟨by decide, by decide, tb 1043 (by decide +kernel) rfl⟩
theorem lk_8_311 : Cond.methodLink RX8 311 yX8_mostUprightSet ∈ TBg := tb 890 (by decide +kernel) rfl
theorem lk_8_326 : Cond.methodLink RX8 326 yX6_append ∈ TBg := tb 922 (by decide +kernel) rfl
theorem lk_8_328 : Cond.methodLink RX8 328 yX6_clear ∈ TBg := tb 930 (by decide +kernel) rfl
theorem lk_9_114 : Cond.methodLink RX9 114 yX9_in ∈ TBg := tb 1158 (by decide +kernel) rfl
theorem lk_9_130 : Cond.methodLink RX9 130 yX9_look ∈ TBg := tb 1169 (by decide +kernel) rfl
theorem lk_9_134 : Cond.methodLink RX9 134 yX9_is ∈ TBg := tb 1189 (by decide +kernel) rfl
theorem lk_9_152 : Cond.methodLink RX9 152 yX9_needs ∈ TBg := tb 1177 (by decide +kernel) rfl
theorem mv_X6_append : MV yX6_append cX6_append 2 (some .int) 1 := ⟨tb 925 (by decide +kernel) rfl, tb 7 (by decide +kernel) rfl, by decide +kernel⟩
theorem mv_X6_appendv : Cond.instanceMethod yX6_append ∈ TBg ∧ Cond.selects yX6_append.cls yX6_append yX6_append ∈ TBg := ⟨tb 923 (by decide +kernel) rfl, tb 924 (by decide +kernel) rfl⟩
theorem mv_X6_clear : MV yX6_clear cX6_clear 2 (some .int) 0 := ⟨tb 933 (by decide +kernel) rfl, tb 7 (by decide +kernel) rfl, by decide +kernel⟩
theorem mv_X6_clearv : Cond.instanceMethod yX6_clear ∈ TBg ∧ Cond.selects yX6_clear.cls yX6_clear yX6_clear ∈ TBg := ⟨tb 931 (by decide +kernel) rfl, tb 932 (by decide +kernel) rfl⟩
theorem mv_X8_mostUprightSet : MV yX8_mostUprightSet cX8_mostUprightSet 5 (some .int) 0 := ⟨tb 893 (by decide +kernel) rfl, tb 1 (by decide +kernel) rfl, by decide +kernel⟩
theorem mv_X8_mostUprightSetv : Cond.instanceMethod yX8_mostUprightSet ∈ TBg ∧ Cond.selects yX8_mostUprightSet.cls yX8_mostUprightSet yX8_mostUprightSet ∈ TBg := ⟨tb 892 (by decide +kernel) rfl, tbP (k := 13) 36 (by decide +kernel) rfl⟩
theorem mv_X9_in : MV yX9_in cX9_in 6 (some .boolean) 3 := ⟨tb 1160 (by decide +kernel) rfl, tb 13 (by decide +kernel) rfl, by decide +kernel⟩
theorem mv_X9_ins : Cond.static yX9_in ∈ TBg := tb 1159 (by decide +kernel) rfl
theorem mv_X9_is : MV yX9_is cX9_is 6 (some .boolean) 5 := ⟨tb 1192 (by decide +kernel) rfl, tb 13 (by decide +kernel) rfl, by decide +kernel⟩
theorem mv_X9_isv : Cond.instanceMethod yX9_is ∈ TBg ∧ Cond.selects yX9_is.cls yX9_is yX9_is ∈ TBg := ⟨tb 1191 (by decide +kernel) rfl, tbP (k := 42) 55 (by decide +kernel) rfl⟩
theorem mv_X9_look : MV yX9_look cX9_look 2 (some .int) 1 := ⟨tb 1172 (by decide +kernel) rfl, tb 13 (by decide +kernel) rfl, by decide +kernel⟩
theorem mv_X9_lookv : Cond.instanceMethod yX9_look ∈ TBg ∧ Cond.selects yX9_look.cls yX9_look yX9_look ∈ TBg := ⟨tb 1171 (by decide +kernel) rfl, tbP (k := 42) 51 (by decide +kernel) rfl⟩
theorem mv_X9_needs : MV yX9_needs cX9_needs 3 none 2 := ⟨tb 1180 (by decide +kernel) rfl, tb 13 (by decide +kernel) rfl, by decide +kernel⟩
theorem mv_X9_needsv : Cond.instanceMethod yX9_needs ∈ TBg ∧ Cond.selects yX9_needs.cls yX9_needs yX9_needs ∈ TBg := ⟨tb 1179 (by decide +kernel) rfl, tbP (k := 42) 52 (by decide +kernel) rfl⟩
theorem dX8_sound_0 : decode cX8_sound 0 = .ok (.aload_n 0, 1) := by decide +kernel
theorem dX8_sound_1 : decode cX8_sound 1 = .ok (.getfield 51, 3) := by decide +kernel
theorem dX8_sound_4 : decode cX8_sound 4 = .ok (.iload_n 1, 1) := by decide +kernel
theorem dX8_sound_5 : decode cX8_sound 5 = .ok (.invokevirtual 326, 3) := by decide +kernel
theorem dX8_sound_8 : decode cX8_sound 8 = .ok (.ireturn, 1) := by decide +kernel
theorem dX8_together_0 : decode cX8_together 0 = .ok (.iload_n 1, 1) := by decide +kernel
theorem dX8_together_1 : decode cX8_together 1 = .ok (.ifCond .lt 16, 3) := by decide +kernel
theorem dX8_together_4 : decode cX8_together 4 = .ok (.iload_n 1, 1) := by decide +kernel
theorem dX8_together_5 : decode cX8_together 5 = .ok (.iconst 1, 1) := by decide +kernel
theorem dX8_together_6 : decode cX8_together 6 = .ok (.aload_n 0, 1) := by decide +kernel
theorem dX8_together_7 : decode cX8_together 7 = .ok (.getfield 64, 3) := by decide +kernel
theorem dX8_together_10 : decode cX8_together 10 = .ok (.getfield 297, 3) := by decide +kernel
theorem dX8_together_13 : decode cX8_together 13 = .ok (.ishl, 1) := by decide +kernel
theorem dX8_together_14 : decode cX8_together 14 = .ok (.if_icmp .lt 5, 3) := by decide +kernel
theorem dX8_together_17 : decode cX8_together 17 = .ok (.iconst (-1), 1) := by decide +kernel
theorem dX8_together_18 : decode cX8_together 18 = .ok (.ireturn, 1) := by decide +kernel
theorem dX8_together_19 : decode cX8_together 19 = .ok (.aload_n 0, 1) := by decide +kernel
theorem dX8_together_20 : decode cX8_together 20 = .ok (.iload_n 1, 1) := by decide +kernel
theorem dX8_together_21 : decode cX8_together 21 = .ok (.invokevirtual 300, 3) := by decide +kernel
theorem dX8_together_24 : decode cX8_together 24 = .ok (.ifCond .eq 7, 3) := by decide +kernel
theorem dX8_together_27 : decode cX8_together 27 = .ok (.iconst 1, 1) := by decide +kernel
theorem dX8_together_28 : decode cX8_together 28 = .ok (.goto 4, 3) := by decide +kernel
theorem dX8_together_31 : decode cX8_together 31 = .ok (.iconst 0, 1) := by decide +kernel
theorem dX8_together_32 : decode cX8_together 32 = .ok (.ireturn, 1) := by decide +kernel
theorem dX8_torn_0 : decode cX8_torn 0 = .ok (.aload_n 0, 1) := by decide +kernel
theorem dX8_torn_1 : decode cX8_torn 1 = .ok (.getfield 350, 3) := by decide +kernel
theorem dX8_torn_4 : decode cX8_torn 4 = .ok (.ireturn, 1) := by decide +kernel
theorem dX8_upright_0 : decode cX8_upright 0 = .ok (.iload_n 1, 1) := by decide +kernel
theorem dX8_upright_1 : decode cX8_upright 1 = .ok (.ifCond .lt 8, 3) := by decide +kernel
theorem dX8_upright_4 : decode cX8_upright 4 = .ok (.iload_n 1, 1) := by decide +kernel
theorem dX8_upright_5 : decode cX8_upright 5 = .ok (.iconst 2, 1) := by decide +kernel
theorem dX8_upright_6 : decode cX8_upright 6 = .ok (.if_icmp .le 5, 3) := by decide +kernel
theorem dX8_upright_9 : decode cX8_upright 9 = .ok (.iconst (-1), 1) := by decide +kernel
theorem dX8_upright_10 : decode cX8_upright 10 = .ok (.ireturn, 1) := by decide +kernel
theorem dX8_upright_11 : decode cX8_upright 11 = .ok (.aload_n 0, 1) := by decide +kernel
theorem dX8_upright_12 : decode cX8_upright 12 = .ok (.invokevirtual 311, 3) := by decide +kernel
theorem dX8_upright_15 : decode cX8_upright 15 = .ok (.istore_n 2, 1) := by decide +kernel
theorem dX8_upright_16 : decode cX8_upright 16 = .ok (.iload_n 2, 1) := by decide +kernel
theorem dX8_upright_17 : decode cX8_upright 17 = .ok (.bipush (-4), 2) := by decide +kernel
theorem dX8_upright_19 : decode cX8_upright 19 = .ok (.if_icmp .eq 7, 3) := by decide +kernel
theorem dX8_upright_22 : decode cX8_upright 22 = .ok (.iload_n 1, 1) := by decide +kernel
theorem dX8_upright_23 : decode cX8_upright 23 = .ok (.ifCond .ne 5, 3) := by decide +kernel
theorem dX8_upright_26 : decode cX8_upright 26 = .ok (.iload_n 2, 1) := by decide +kernel
theorem dX8_upright_27 : decode cX8_upright 27 = .ok (.ireturn, 1) := by decide +kernel
theorem dX8_upright_28 : decode cX8_upright 28 = .ok (.aload_n 0, 1) := by decide +kernel
theorem dX8_upright_29 : decode cX8_upright 29 = .ok (.getfield 44, 3) := by decide +kernel
theorem dX8_upright_32 : decode cX8_upright 32 = .ok (.aload_n 0, 1) := by decide +kernel
theorem dX8_upright_33 : decode cX8_upright 33 = .ok (.getfield 64, 3) := by decide +kernel
theorem dX8_upright_36 : decode cX8_upright 36 = .ok (.aload_n 0, 1) := by decide +kernel
theorem dX8_upright_37 : decode cX8_upright 37 = .ok (.getfield 19, 3) := by decide +kernel
theorem dX8_upright_40 : decode cX8_upright 40 = .ok (.getfield 123, 3) := by decide +kernel
theorem dX8_upright_43 : decode cX8_upright 43 = .ok (.iload_n 2, 1) := by decide +kernel
theorem dX8_upright_44 : decode cX8_upright 44 = .ok (.invokevirtual 207, 3) := by decide +kernel
theorem dX8_upright_47 : decode cX8_upright 47 = .ok (.iload_n 1, 1) := by decide +kernel
theorem dX8_upright_48 : decode cX8_upright 48 = .ok (.iconst 1, 1) := by decide +kernel
theorem dX8_upright_49 : decode cX8_upright 49 = .ok (.if_icmp .ne 13, 3) := by decide +kernel
theorem dX8_upright_52 : decode cX8_upright 52 = .ok (.aload_n 0, 1) := by decide +kernel
theorem dX8_upright_53 : decode cX8_upright 53 = .ok (.getfield 44, 3) := by decide +kernel
theorem dX8_upright_56 : decode cX8_upright 56 = .ok (.getfield 217, 3) := by decide +kernel
theorem dX8_upright_59 : decode cX8_upright 59 = .ok (.goto 10, 3) := by decide +kernel
theorem dX8_upright_62 : decode cX8_upright 62 = .ok (.aload_n 0, 1) := by decide +kernel
theorem dX8_upright_63 : decode cX8_upright 63 = .ok (.getfield 44, 3) := by decide +kernel
theorem dX8_upright_66 : decode cX8_upright 66 = .ok (.getfield 220, 3) := by decide +kernel
theorem dX8_upright_69 : decode cX8_upright 69 = .ok (.ireturn, 1) := by decide +kernel
theorem dX8_water_0 : decode cX8_water 0 = .ok (.iload_n 1, 1) := by decide +kernel
theorem dX8_water_1 : decode cX8_water 1 = .ok (.iconst 1, 1) := by decide +kernel
theorem dX8_water_2 : decode cX8_water 2 = .ok (.if_icmp .lt 17, 3) := by decide +kernel
theorem dX8_water_5 : decode cX8_water 5 = .ok (.iload_n 1, 1) := by decide +kernel
theorem dX8_water_6 : decode cX8_water 6 = .ok (.bipush 120, 2) := by decide +kernel
theorem dX8_water_8 : decode cX8_water 8 = .ok (.if_icmp .gt 11, 3) := by decide +kernel
theorem dX8_water_11 : decode cX8_water 11 = .ok (.aload_n 0, 1) := by decide +kernel
theorem dX8_water_12 : decode cX8_water 12 = .ok (.iload_n 2, 1) := by decide +kernel
theorem dX8_water_13 : decode cX8_water 13 = .ok (.invokevirtual 109, 3) := by decide +kernel
theorem dX8_water_16 : decode cX8_water 16 = .ok (.ifCond .ne 5, 3) := by decide +kernel
theorem dX8_water_19 : decode cX8_water 19 = .ok (.iconst (-1), 1) := by decide +kernel
theorem dX8_water_20 : decode cX8_water 20 = .ok (.ireturn, 1) := by decide +kernel
theorem dX8_water_21 : decode cX8_water 21 = .ok (.aload_n 0, 1) := by decide +kernel
theorem dX8_water_22 : decode cX8_water 22 = .ok (.getfield 23, 3) := by decide +kernel
theorem dX8_water_25 : decode cX8_water 25 = .ok (.aload_n 0, 1) := by decide +kernel
theorem dX8_water_26 : decode cX8_water 26 = .ok (.getfield 19, 3) := by decide +kernel
theorem dX8_water_29 : decode cX8_water 29 = .ok (.invokevirtual 229, 3) := by decide +kernel
theorem dX8_water_32 : decode cX8_water 32 = .ok (.aload_n 0, 1) := by decide +kernel
theorem dX8_water_33 : decode cX8_water 33 = .ok (.getfield 23, 3) := by decide +kernel
theorem dX8_water_36 : decode cX8_water 36 = .ok (.aload_n 0, 1) := by decide +kernel
theorem dX8_water_37 : decode cX8_water 37 = .ok (.getfield 64, 3) := by decide +kernel
theorem dX8_water_40 : decode cX8_water 40 = .ok (.iload_n 1, 1) := by decide +kernel
theorem dX8_water_41 : decode cX8_water 41 = .ok (.invokevirtual 261, 3) := by decide +kernel
theorem dX8_water_44 : decode cX8_water 44 = .ok (.pop, 1) := by decide +kernel
theorem dX8_water_45 : decode cX8_water 45 = .ok (.aload_n 0, 1) := by decide +kernel
theorem dX8_water_46 : decode cX8_water 46 = .ok (.getfield 23, 3) := by decide +kernel
theorem dX8_water_49 : decode cX8_water 49 = .ok (.getfield 123, 3) := by decide +kernel
theorem dX8_water_52 : decode cX8_water 52 = .ok (.iload_n 2, 1) := by decide +kernel
theorem dX8_water_53 : decode cX8_water 53 = .ok (.iaload, 1) := by decide +kernel
theorem dX8_water_54 : decode cX8_water 54 = .ok (.ireturn, 1) := by decide +kernel
theorem dX8_wipe_0 : decode cX8_wipe 0 = .ok (.aload_n 0, 1) := by decide +kernel
theorem dX8_wipe_1 : decode cX8_wipe 1 = .ok (.getfield 51, 3) := by decide +kernel
theorem dX8_wipe_4 : decode cX8_wipe 4 = .ok (.invokevirtual 328, 3) := by decide +kernel
theorem dX8_wipe_7 : decode cX8_wipe 7 = .ok (.ireturn, 1) := by decide +kernel
theorem dX9_flag_0 : decode cX9_flag 0 = .ok (.iload_n 0, 1) := by decide +kernel
theorem dX9_flag_1 : decode cX9_flag 1 = .ok (.ifCond .eq 7, 3) := by decide +kernel
theorem dX9_flag_4 : decode cX9_flag 4 = .ok (.iconst 1, 1) := by decide +kernel
theorem dX9_flag_5 : decode cX9_flag 5 = .ok (.goto 4, 3) := by decide +kernel
theorem dX9_flag_8 : decode cX9_flag 8 = .ok (.iconst 0, 1) := by decide +kernel
theorem dX9_flag_9 : decode cX9_flag 9 = .ok (.ireturn, 1) := by decide +kernel
theorem dX9_in_0 : decode cX9_in 0 = .ok (.lload_n 0, 1) := by decide +kernel
theorem dX9_in_1 : decode cX9_in 1 = .ok (.lload_n 2, 1) := by decide +kernel
theorem dX9_in_2 : decode cX9_in 2 = .ok (.lcmp, 1) := by decide +kernel
theorem dX9_in_3 : decode cX9_in 3 = .ok (.ifCond .lt 14, 3) := by decide +kernel
theorem dX9_in_6 : decode cX9_in 6 = .ok (.lload_n 0, 1) := by decide +kernel
theorem dX9_in_7 : decode cX9_in 7 = .ok (.lload 4, 2) := by decide +kernel
theorem dX9_in_9 : decode cX9_in 9 = .ok (.lcmp, 1) := by decide +kernel
theorem dX9_in_10 : decode cX9_in 10 = .ok (.ifCond .gt 7, 3) := by decide +kernel
theorem dX9_in_13 : decode cX9_in 13 = .ok (.iconst 1, 1) := by decide +kernel
theorem dX9_in_14 : decode cX9_in 14 = .ok (.goto 4, 3) := by decide +kernel
theorem dX9_in_17 : decode cX9_in 17 = .ok (.iconst 0, 1) := by decide +kernel
theorem dX9_in_18 : decode cX9_in 18 = .ok (.ireturn, 1) := by decide +kernel
theorem dX9_needs_0 : decode cX9_needs 0 = .ok (.iload_n 1, 1) := by decide +kernel
theorem dX9_needs_1 : decode cX9_needs 1 = .ok (.ifCond .ne 23, 3) := by decide +kernel
theorem dX9_needs_4 : decode cX9_needs 4 = .ok (.aload_n 0, 1) := by decide +kernel
theorem dX9_needs_5 : decode cX9_needs 5 = .ok (.getfield 118, 3) := by decide +kernel
theorem dX9_needs_8 : decode cX9_needs 8 = .ok (.ifCond .ne 16, 3) := by decide +kernel
theorem dX9_needs_11 : decode cX9_needs 11 = .ok (.aload_n 0, 1) := by decide +kernel
theorem dX9_needs_12 : decode cX9_needs 12 = .ok (.iload_n 2, 1) := by decide +kernel
theorem dX9_needs_13 : decode cX9_needs 13 = .ok (.putfield 118, 3) := by decide +kernel
theorem dX9_needs_16 : decode cX9_needs 16 = .ok (.aload_n 0, 1) := by decide +kernel
theorem dX9_needs_17 : decode cX9_needs 17 = .ok (.aload_n 0, 1) := by decide +kernel
theorem dX9_needs_18 : decode cX9_needs 18 = .ok (.getfield 121, 3) := by decide +kernel
theorem dX9_needs_21 : decode cX9_needs 21 = .ok (.putfield 124, 3) := by decide +kernel
theorem dX9_needs_24 : decode cX9_needs 24 = .ok (.return_, 1) := by decide +kernel
theorem dX9_isNumber_0 : decode cX9_isNumber 0 = .ok (.aload_n 0, 1) := by decide +kernel
theorem dX9_isNumber_1 : decode cX9_isNumber 1 = .ok (.getfield 118, 3) := by decide +kernel
theorem dX9_isNumber_4 : decode cX9_isNumber 4 = .ok (.ifCond .ne 21, 3) := by decide +kernel
theorem dX9_isNumber_7 : decode cX9_isNumber 7 = .ok (.aload_n 0, 1) := by decide +kernel
theorem dX9_isNumber_8 : decode cX9_isNumber 8 = .ok (.aload_n 0, 1) := by decide +kernel
theorem dX9_isNumber_9 : decode cX9_isNumber 9 = .ok (.getfield 138, 3) := by decide +kernel
theorem dX9_isNumber_12 : decode cX9_isNumber 12 = .ok (.iconst 2, 1) := by decide +kernel
theorem dX9_isNumber_13 : decode cX9_isNumber 13 = .ok (.if_icmp .ne 7, 3) := by decide +kernel
theorem dX9_isNumber_16 : decode cX9_isNumber 16 = .ok (.iconst 1, 1) := by decide +kernel
theorem dX9_isNumber_17 : decode cX9_isNumber 17 = .ok (.goto 4, 3) := by decide +kernel
theorem dX9_isNumber_20 : decode cX9_isNumber 20 = .ok (.iconst 0, 1) := by decide +kernel
theorem dX9_isNumber_21 : decode cX9_isNumber 21 = .ok (.iconst 2, 1) := by decide +kernel
theorem dX9_isNumber_22 : decode cX9_isNumber 22 = .ok (.invokevirtual 152, 3) := by decide +kernel
theorem dX9_isNumber_25 : decode cX9_isNumber 25 = .ok (.aload_n 0, 1) := by decide +kernel
theorem dX9_isNumber_26 : decode cX9_isNumber 26 = .ok (.getfield 118, 3) := by decide +kernel
theorem dX9_isNumber_29 : decode cX9_isNumber 29 = .ok (.ifCond .ne 20, 3) := by decide +kernel
theorem dX9_isNumber_32 : decode cX9_isNumber 32 = .ok (.aload_n 0, 1) := by decide +kernel
theorem dX9_isNumber_33 : decode cX9_isNumber 33 = .ok (.aload_n 0, 1) := by decide +kernel
theorem dX9_isNumber_34 : decode cX9_isNumber 34 = .ok (.getfield 149, 3) := by decide +kernel
theorem dX9_isNumber_37 : decode cX9_isNumber 37 = .ok (.i2l, 1) := by decide +kernel
theorem dX9_isNumber_38 : decode cX9_isNumber 38 = .ok (.iload_n 1, 1) := by decide +kernel
theorem dX9_isNumber_39 : decode cX9_isNumber 39 = .ok (.i2l, 1) := by decide +kernel
theorem dX9_isNumber_40 : decode cX9_isNumber 40 = .ok (.iload_n 2, 1) := by decide +kernel
theorem dX9_isNumber_41 : decode cX9_isNumber 41 = .ok (.i2l, 1) := by decide +kernel
theorem dX9_isNumber_42 : decode cX9_isNumber 42 = .ok (.invokestatic 114, 3) := by decide +kernel
theorem dX9_isNumber_45 : decode cX9_isNumber 45 = .ok (.iconst 3, 1) := by decide +kernel
theorem dX9_isNumber_46 : decode cX9_isNumber 46 = .ok (.invokevirtual 152, 3) := by decide +kernel
theorem dX9_isNumber_49 : decode cX9_isNumber 49 = .ok (.return_, 1) := by decide +kernel
theorem dX9_look_0 : decode cX9_look 0 = .ok (.iload_n 1, 1) := by decide +kernel
theorem dX9_look_1 : decode cX9_look 1 = .ok (.aload_n 0, 1) := by decide +kernel
theorem dX9_look_2 : decode cX9_look 2 = .ok (.getfield 109, 3) := by decide +kernel
theorem dX9_look_5 : decode cX9_look 5 = .ok (.if_icmp .ge 12, 3) := by decide +kernel
theorem dX9_look_8 : decode cX9_look 8 = .ok (.aload_n 0, 1) := by decide +kernel
theorem dX9_look_9 : decode cX9_look 9 = .ok (.getfield 50, 3) := by decide +kernel
theorem dX9_look_12 : decode cX9_look 12 = .ok (.iload_n 1, 1) := by decide +kernel
theorem dX9_look_13 : decode cX9_look 13 = .ok (.iaload, 1) := by decide +kernel
theorem dX9_look_14 : decode cX9_look 14 = .ok (.goto 4, 3) := by decide +kernel
theorem dX9_look_17 : decode cX9_look 17 = .ok (.iconst (-1), 1) := by decide +kernel
theorem dX9_look_18 : decode cX9_look 18 = .ok (.ireturn, 1) := by decide +kernel
theorem dX9_is_0 : decode cX9_is 0 = .ok (.aload_n 0, 1) := by decide +kernel
theorem dX9_is_1 : decode cX9_is 1 = .ok (.getfield 127, 3) := by decide +kernel
theorem dX9_is_4 : decode cX9_is 4 = .ok (.aload_n 0, 1) := by decide +kernel
theorem dX9_is_5 : decode cX9_is 5 = .ok (.getfield 121, 3) := by decide +kernel
theorem dX9_is_8 : decode cX9_is 8 = .ok (.isub, 1) := by decide +kernel
theorem dX9_is_9 : decode cX9_is 9 = .ok (.iload_n 1, 1) := by decide +kernel
theorem dX9_is_10 : decode cX9_is 10 = .ok (.if_icmp .ne 63, 3) := by decide +kernel
theorem dX9_is_13 : decode cX9_is 13 = .ok (.aload_n 0, 1) := by decide +kernel
theorem dX9_is_14 : decode cX9_is 14 = .ok (.aload_n 0, 1) := by decide +kernel
theorem dX9_is_15 : decode cX9_is 15 = .ok (.getfield 121, 3) := by decide +kernel
theorem dX9_is_18 : decode cX9_is 18 = .ok (.invokevirtual 130, 3) := by decide +kernel
theorem dX9_is_21 : decode cX9_is 21 = .ok (.iload_n 2, 1) := by decide +kernel
theorem dX9_is_22 : decode cX9_is 22 = .ok (.if_icmp .ne 51, 3) := by decide +kernel
theorem dX9_is_25 : decode cX9_is 25 = .ok (.aload_n 0, 1) := by decide +kernel
theorem dX9_is_26 : decode cX9_is 26 = .ok (.aload_n 0, 1) := by decide +kernel
theorem dX9_is_27 : decode cX9_is 27 = .ok (.getfield 121, 3) := by decide +kernel
theorem dX9_is_30 : decode cX9_is 30 = .ok (.iconst 1, 1) := by decide +kernel
theorem dX9_is_31 : decode cX9_is 31 = .ok (.iadd, 1) := by decide +kernel
theorem dX9_is_32 : decode cX9_is 32 = .ok (.invokevirtual 130, 3) := by decide +kernel
theorem dX9_is_35 : decode cX9_is 35 = .ok (.iload_n 3, 1) := by decide +kernel
theorem dX9_is_36 : decode cX9_is 36 = .ok (.if_icmp .ne 37, 3) := by decide +kernel
theorem dX9_is_39 : decode cX9_is 39 = .ok (.aload_n 0, 1) := by decide +kernel
theorem dX9_is_40 : decode cX9_is 40 = .ok (.aload_n 0, 1) := by decide +kernel
theorem dX9_is_41 : decode cX9_is 41 = .ok (.getfield 121, 3) := by decide +kernel
theorem dX9_is_44 : decode cX9_is 44 = .ok (.iconst 2, 1) := by decide +kernel
theorem dX9_is_45 : decode cX9_is 45 = .ok (.iadd, 1) := by decide +kernel
theorem dX9_is_46 : decode cX9_is 46 = .ok (.invokevirtual 130, 3) := by decide +kernel
theorem dX9_is_49 : decode cX9_is 49 = .ok (.iload 4, 2) := by decide +kernel
theorem dX9_is_51 : decode cX9_is 51 = .ok (.if_icmp .ne 22, 3) := by decide +kernel
theorem dX9_is_54 : decode cX9_is 54 = .ok (.aload_n 0, 1) := by decide +kernel
theorem dX9_is_55 : decode cX9_is 55 = .ok (.aload_n 0, 1) := by decide +kernel
theorem dX9_is_56 : decode cX9_is 56 = .ok (.getfield 121, 3) := by decide +kernel
theorem dX9_is_59 : decode cX9_is 59 = .ok (.iconst 3, 1) := by decide +kernel
theorem dX9_is_60 : decode cX9_is 60 = .ok (.iadd, 1) := by decide +kernel
theorem dX9_is_61 : decode cX9_is 61 = .ok (.invokevirtual 130, 3) := by decide +kernel
theorem dX9_is_64 : decode cX9_is 64 = .ok (.iload 5, 2) := by decide +kernel
theorem dX9_is_66 : decode cX9_is 66 = .ok (.if_icmp .ne 7, 3) := by decide +kernel
theorem dX9_is_69 : decode cX9_is 69 = .ok (.iconst 1, 1) := by decide +kernel
theorem dX9_is_70 : decode cX9_is 70 = .ok (.goto 4, 3) := by decide +kernel
theorem dX9_is_73 : decode cX9_is 73 = .ok (.iconst 0, 1) := by decide +kernel
theorem dX9_is_74 : decode cX9_is 74 = .ok (.ireturn, 1) := by decide +kernel
theorem dX9_nameNow_0 : decode cX9_nameNow 0 = .ok (.aload_n 0, 1) := by decide +kernel
theorem dX9_nameNow_1 : decode cX9_nameNow 1 = .ok (.iconst 4, 1) := by decide +kernel
theorem dX9_nameNow_2 : decode cX9_nameNow 2 = .ok (.bipush 104, 2) := by decide +kernel
theorem dX9_nameNow_4 : decode cX9_nameNow 4 = .ok (.bipush 111, 2) := by decide +kernel
theorem dX9_nameNow_6 : decode cX9_nameNow 6 = .ok (.bipush 108, 2) := by decide +kernel
theorem dX9_nameNow_8 : decode cX9_nameNow 8 = .ok (.bipush 100, 2) := by decide +kernel
theorem dX9_nameNow_10 : decode cX9_nameNow 10 = .ok (.invokevirtual 134, 3) := by decide +kernel
theorem dX9_nameNow_13 : decode cX9_nameNow 13 = .ok (.ifCond .eq 6, 3) := by decide +kernel
theorem dX9_nameNow_16 : decode cX9_nameNow 16 = .ok (.bipush 10, 2) := by decide +kernel
theorem dX9_nameNow_18 : decode cX9_nameNow 18 = .ok (.ireturn, 1) := by decide +kernel
theorem dX9_nameNow_19 : decode cX9_nameNow 19 = .ok (.aload_n 0, 1) := by decide +kernel
theorem dX9_nameNow_20 : decode cX9_nameNow 20 = .ok (.iconst 4, 1) := by decide +kernel
theorem dX9_nameNow_21 : decode cX9_nameNow 21 = .ok (.bipush 100, 2) := by decide +kernel
theorem dX9_nameNow_23 : decode cX9_nameNow 23 = .ok (.bipush 111, 2) := by decide +kernel
theorem dX9_nameNow_25 : decode cX9_nameNow 25 = .ok (.bipush 111, 2) := by decide +kernel
theorem dX9_nameNow_27 : decode cX9_nameNow 27 = .ok (.bipush 114, 2) := by decide +kernel
theorem dX9_nameNow_29 : decode cX9_nameNow 29 = .ok (.invokevirtual 134, 3) := by decide +kernel
theorem dX9_nameNow_32 : decode cX9_nameNow 32 = .ok (.ifCond .eq 6, 3) := by decide +kernel
theorem dX9_nameNow_35 : decode cX9_nameNow 35 = .ok (.bipush 11, 2) := by decide +kernel
theorem dX9_nameNow_37 : decode cX9_nameNow 37 = .ok (.ireturn, 1) := by decide +kernel
theorem dX9_nameNow_38 : decode cX9_nameNow 38 = .ok (.aload_n 0, 1) := by decide +kernel
theorem dX9_nameNow_39 : decode cX9_nameNow 39 = .ok (.iconst 4, 1) := by decide +kernel
theorem dX9_nameNow_40 : decode cX9_nameNow 40 = .ok (.bipush 104, 2) := by decide +kernel
theorem dX9_nameNow_42 : decode cX9_nameNow 42 = .ok (.bipush 111, 2) := by decide +kernel
theorem dX9_nameNow_44 : decode cX9_nameNow 44 = .ok (.bipush 108, 2) := by decide +kernel
theorem dX9_nameNow_46 : decode cX9_nameNow 46 = .ok (.bipush 101, 2) := by decide +kernel
theorem dX9_nameNow_48 : decode cX9_nameNow 48 = .ok (.invokevirtual 134, 3) := by decide +kernel
theorem dX9_nameNow_51 : decode cX9_nameNow 51 = .ok (.ifCond .eq 6, 3) := by decide +kernel
theorem dX9_nameNow_54 : decode cX9_nameNow 54 = .ok (.bipush 12, 2) := by decide +kernel
theorem dX9_nameNow_56 : decode cX9_nameNow 56 = .ok (.ireturn, 1) := by decide +kernel
theorem dX9_nameNow_57 : decode cX9_nameNow 57 = .ok (.aload_n 0, 1) := by decide +kernel
theorem dX9_nameNow_58 : decode cX9_nameNow 58 = .ok (.iconst 4, 1) := by decide +kernel
theorem dX9_nameNow_59 : decode cX9_nameNow 59 = .ok (.bipush 112, 2) := by decide +kernel
theorem dX9_nameNow_61 : decode cX9_nameNow 61 = .ok (.bipush 117, 2) := by decide +kernel
theorem dX9_nameNow_63 : decode cX9_nameNow 63 = .ok (.bipush 109, 2) := by decide +kernel
theorem dX9_nameNow_65 : decode cX9_nameNow 65 = .ok (.bipush 112, 2) := by decide +kernel
theorem dX9_nameNow_67 : decode cX9_nameNow 67 = .ok (.invokevirtual 134, 3) := by decide +kernel
theorem dX9_nameNow_70 : decode cX9_nameNow 70 = .ok (.ifCond .eq 6, 3) := by decide +kernel
theorem dX9_nameNow_73 : decode cX9_nameNow 73 = .ok (.bipush 13, 2) := by decide +kernel
theorem dX9_nameNow_75 : decode cX9_nameNow 75 = .ok (.ireturn, 1) := by decide +kernel
theorem dX9_nameNow_76 : decode cX9_nameNow 76 = .ok (.aload_n 0, 1) := by decide +kernel
theorem dX9_nameNow_77 : decode cX9_nameNow 77 = .ok (.iconst 5, 1) := by decide +kernel
theorem dX9_nameNow_78 : decode cX9_nameNow 78 = .ok (.bipush 99, 2) := by decide +kernel
theorem dX9_nameNow_80 : decode cX9_nameNow 80 = .ok (.bipush 114, 2) := by decide +kernel
theorem dX9_nameNow_82 : decode cX9_nameNow 82 = .ok (.bipush 101, 2) := by decide +kernel
theorem dX9_nameNow_84 : decode cX9_nameNow 84 = .ok (.bipush 119, 2) := by decide +kernel
theorem dX9_nameNow_86 : decode cX9_nameNow 86 = .ok (.invokevirtual 134, 3) := by decide +kernel
theorem dX9_nameNow_89 : decode cX9_nameNow 89 = .ok (.ifCond .eq 20, 3) := by decide +kernel
theorem dX9_nameNow_92 : decode cX9_nameNow 92 = .ok (.aload_n 0, 1) := by decide +kernel
theorem dX9_nameNow_93 : decode cX9_nameNow 93 = .ok (.aload_n 0, 1) := by decide +kernel
theorem dX9_nameNow_94 : decode cX9_nameNow 94 = .ok (.getfield 121, 3) := by decide +kernel
theorem dX9_nameNow_97 : decode cX9_nameNow 97 = .ok (.iconst 4, 1) := by decide +kernel
theorem dX9_nameNow_98 : decode cX9_nameNow 98 = .ok (.iadd, 1) := by decide +kernel
theorem dX9_nameNow_99 : decode cX9_nameNow 99 = .ok (.invokevirtual 130, 3) := by decide +kernel
theorem dX9_nameNow_102 : decode cX9_nameNow 102 = .ok (.bipush 115, 2) := by decide +kernel
theorem dX9_nameNow_104 : decode cX9_nameNow 104 = .ok (.if_icmp .ne 5, 3) := by decide +kernel
theorem dX9_nameNow_107 : decode cX9_nameNow 107 = .ok (.iconst 0, 1) := by decide +kernel
theorem dX9_nameNow_108 : decode cX9_nameNow 108 = .ok (.ireturn, 1) := by decide +kernel
theorem dX9_nameNow_109 : decode cX9_nameNow 109 = .ok (.aload_n 0, 1) := by decide +kernel
theorem dX9_nameNow_110 : decode cX9_nameNow 110 = .ok (.iconst 5, 1) := by decide +kernel
theorem dX9_nameNow_111 : decode cX9_nameNow 111 = .ok (.bipush 115, 2) := by decide +kernel
theorem dX9_nameNow_113 : decode cX9_nameNow 113 = .ok (.bipush 105, 2) := by decide +kernel
theorem dX9_nameNow_115 : decode cX9_nameNow 115 = .ok (.bipush 110, 2) := by decide +kernel
theorem dX9_nameNow_117 : decode cX9_nameNow 117 = .ok (.bipush 107, 2) := by decide +kernel
theorem dX9_nameNow_119 : decode cX9_nameNow 119 = .ok (.invokevirtual 134, 3) := by decide +kernel
theorem dX9_nameNow_122 : decode cX9_nameNow 122 = .ok (.ifCond .eq 20, 3) := by decide +kernel
theorem dX9_nameNow_125 : decode cX9_nameNow 125 = .ok (.aload_n 0, 1) := by decide +kernel
theorem dX9_nameNow_126 : decode cX9_nameNow 126 = .ok (.aload_n 0, 1) := by decide +kernel
theorem dX9_nameNow_127 : decode cX9_nameNow 127 = .ok (.getfield 121, 3) := by decide +kernel
theorem dX9_nameNow_130 : decode cX9_nameNow 130 = .ok (.iconst 4, 1) := by decide +kernel
theorem dX9_nameNow_131 : decode cX9_nameNow 131 = .ok (.iadd, 1) := by decide +kernel
theorem dX9_nameNow_132 : decode cX9_nameNow 132 = .ok (.invokevirtual 130, 3) := by decide +kernel
theorem dX9_nameNow_135 : decode cX9_nameNow 135 = .ok (.bipush 115, 2) := by decide +kernel
theorem dX9_nameNow_137 : decode cX9_nameNow 137 = .ok (.if_icmp .ne 5, 3) := by decide +kernel
theorem dX9_nameNow_140 : decode cX9_nameNow 140 = .ok (.iconst 1, 1) := by decide +kernel
theorem dX9_nameNow_141 : decode cX9_nameNow 141 = .ok (.ireturn, 1) := by decide +kernel
theorem dX9_nameNow_142 : decode cX9_nameNow 142 = .ok (.aload_n 0, 1) := by decide +kernel
theorem dX9_nameNow_143 : decode cX9_nameNow 143 = .ok (.iconst 5, 1) := by decide +kernel
theorem dX9_nameNow_144 : decode cX9_nameNow 144 = .ok (.bipush 108, 2) := by decide +kernel
theorem dX9_nameNow_146 : decode cX9_nameNow 146 = .ok (.bipush 105, 2) := by decide +kernel
theorem dX9_nameNow_148 : decode cX9_nameNow 148 = .ok (.bipush 115, 2) := by decide +kernel
theorem dX9_nameNow_150 : decode cX9_nameNow 150 = .ok (.bipush 116, 2) := by decide +kernel
theorem dX9_nameNow_152 : decode cX9_nameNow 152 = .ok (.invokevirtual 134, 3) := by decide +kernel
theorem dX9_nameNow_155 : decode cX9_nameNow 155 = .ok (.ifCond .eq 20, 3) := by decide +kernel
theorem dX9_nameNow_158 : decode cX9_nameNow 158 = .ok (.aload_n 0, 1) := by decide +kernel
theorem dX9_nameNow_159 : decode cX9_nameNow 159 = .ok (.aload_n 0, 1) := by decide +kernel
theorem dX9_nameNow_160 : decode cX9_nameNow 160 = .ok (.getfield 121, 3) := by decide +kernel
theorem dX9_nameNow_163 : decode cX9_nameNow 163 = .ok (.iconst 4, 1) := by decide +kernel
theorem dX9_nameNow_164 : decode cX9_nameNow 164 = .ok (.iadd, 1) := by decide +kernel
theorem dX9_nameNow_165 : decode cX9_nameNow 165 = .ok (.invokevirtual 130, 3) := by decide +kernel
theorem dX9_nameNow_168 : decode cX9_nameNow 168 = .ok (.bipush 115, 2) := by decide +kernel
theorem dX9_nameNow_170 : decode cX9_nameNow 170 = .ok (.if_icmp .ne 5, 3) := by decide +kernel
theorem dX9_nameNow_173 : decode cX9_nameNow 173 = .ok (.iconst 2, 1) := by decide +kernel
theorem dX9_nameNow_174 : decode cX9_nameNow 174 = .ok (.ireturn, 1) := by decide +kernel
theorem dX9_nameNow_175 : decode cX9_nameNow 175 = .ok (.aload_n 0, 1) := by decide +kernel
theorem dX9_nameNow_176 : decode cX9_nameNow 176 = .ok (.iconst 5, 1) := by decide +kernel
theorem dX9_nameNow_177 : decode cX9_nameNow 177 = .ok (.bipush 116, 2) := by decide +kernel
theorem dX9_nameNow_179 : decode cX9_nameNow 179 = .ok (.bipush 114, 2) := by decide +kernel
theorem dX9_nameNow_181 : decode cX9_nameNow 181 = .ok (.bipush 105, 2) := by decide +kernel
theorem dX9_nameNow_183 : decode cX9_nameNow 183 = .ok (.bipush 109, 2) := by decide +kernel
theorem dX9_nameNow_185 : decode cX9_nameNow 185 = .ok (.invokevirtual 134, 3) := by decide +kernel
theorem dX9_nameNow_188 : decode cX9_nameNow 188 = .ok (.ifCond .eq 20, 3) := by decide +kernel
theorem dX9_nameNow_191 : decode cX9_nameNow 191 = .ok (.aload_n 0, 1) := by decide +kernel
theorem dX9_nameNow_192 : decode cX9_nameNow 192 = .ok (.aload_n 0, 1) := by decide +kernel
theorem dX9_nameNow_193 : decode cX9_nameNow 193 = .ok (.getfield 121, 3) := by decide +kernel
theorem dX9_nameNow_196 : decode cX9_nameNow 196 = .ok (.iconst 4, 1) := by decide +kernel
theorem dX9_nameNow_197 : decode cX9_nameNow 197 = .ok (.iadd, 1) := by decide +kernel
theorem dX9_nameNow_198 : decode cX9_nameNow 198 = .ok (.invokevirtual 130, 3) := by decide +kernel
theorem dX9_nameNow_201 : decode cX9_nameNow 201 = .ok (.bipush 115, 2) := by decide +kernel
theorem dX9_nameNow_203 : decode cX9_nameNow 203 = .ok (.if_icmp .ne 5, 3) := by decide +kernel
theorem dX9_nameNow_206 : decode cX9_nameNow 206 = .ok (.iconst 3, 1) := by decide +kernel
theorem dX9_nameNow_207 : decode cX9_nameNow 207 = .ok (.ireturn, 1) := by decide +kernel
theorem dX9_nameNow_208 : decode cX9_nameNow 208 = .ok (.aload_n 0, 1) := by decide +kernel
theorem dX9_nameNow_209 : decode cX9_nameNow 209 = .ok (.iconst 4, 1) := by decide +kernel
theorem dX9_nameNow_210 : decode cX9_nameNow 210 = .ok (.bipush 115, 2) := by decide +kernel
theorem dX9_nameNow_212 : decode cX9_nameNow 212 = .ok (.bipush 97, 2) := by decide +kernel
theorem dX9_nameNow_214 : decode cX9_nameNow 214 = .ok (.bipush 102, 2) := by decide +kernel
theorem dX9_nameNow_216 : decode cX9_nameNow 216 = .ok (.bipush 101, 2) := by decide +kernel
theorem dX9_nameNow_218 : decode cX9_nameNow 218 = .ok (.invokevirtual 134, 3) := by decide +kernel
theorem dX9_nameNow_221 : decode cX9_nameNow 221 = .ok (.ifCond .eq 7, 3) := by decide +kernel
theorem dX9_nameNow_224 : decode cX9_nameNow 224 = .ok (.iconst 4, 1) := by decide +kernel
theorem dX9_nameNow_225 : decode cX9_nameNow 225 = .ok (.goto 26, 3) := by decide +kernel
theorem dX9_nameNow_228 : decode cX9_nameNow 228 = .ok (.aload_n 0, 1) := by decide +kernel
theorem dX9_nameNow_229 : decode cX9_nameNow 229 = .ok (.iconst 4, 1) := by decide +kernel
theorem dX9_nameNow_230 : decode cX9_nameNow 230 = .ok (.bipush 115, 2) := by decide +kernel
theorem dX9_nameNow_232 : decode cX9_nameNow 232 = .ok (.bipush 104, 2) := by decide +kernel
theorem dX9_nameNow_234 : decode cX9_nameNow 234 = .ok (.bipush 117, 2) := by decide +kernel
theorem dX9_nameNow_236 : decode cX9_nameNow 236 = .ok (.bipush 116, 2) := by decide +kernel
theorem dX9_nameNow_238 : decode cX9_nameNow 238 = .ok (.invokevirtual 134, 3) := by decide +kernel
theorem dX9_nameNow_241 : decode cX9_nameNow 241 = .ok (.ifCond .eq 8, 3) := by decide +kernel
theorem dX9_nameNow_244 : decode cX9_nameNow 244 = .ok (.bipush 14, 2) := by decide +kernel
theorem dX9_nameNow_246 : decode cX9_nameNow 246 = .ok (.goto 5, 3) := by decide +kernel
theorem dX9_nameNow_249 : decode cX9_nameNow 249 = .ok (.bipush (-4), 2) := by decide +kernel
theorem dX9_nameNow_251 : decode cX9_nameNow 251 = .ok (.ireturn, 1) := by decide +kernel
def f_X8_sound (m : Mm) (a1 : Int32) : Option (Int32 × Mm) :=
  bind2 (f_X6_append m a1) fun x1 m2 => some (x1, m2)
set_option maxHeartbeats 4000000 in
set_option maxRecDepth 100000 in
theorem ct_X8_sound (F : Nat) {n : Nat} (hn : 113 ≤ n) (P D : Nat) (T : Option Nat) (m : Mm) (a1 : Int32) : Ct yX8_sound cX8_sound 2 (some .int) 1 21 [.ref 0, .int a1] n n m (RF P D T) (rI (RF P D T) (f_X8_sound m a1)) := by
  refine Ct.ofI (own := RX8) (nm := "sound") [(0, .ref 0), (1, .int a1)] (by decide) (Nat.le_of_ble_eq_true rfl) rfl rfl rfl ?_
  unfold f_X8_sound
  refine J_aload_n 0 0 0 dX8_sound_0 rfl rfl ?_
  refine J_getR 0 8 7 40 dX8_sound_1 fl_8_51 rfl rfl (Nat.lt_of_lt_of_le (Nat.le_of_ble_eq_true rfl) hn) rfl ?_
  refine J_iload_n 1 1 a1 dX8_sound_4 rfl rfl ?_
  refine J_callVI 40 6 1 [.int a1] dX8_sound_5 mv_X6_append mv_X6_appendv lk_8_326 (ct_X6_append F hn P D T m a1) rfl rfl (by decide) rfl (Nat.lt_of_lt_of_le (Nat.le_of_ble_eq_true rfl) hn) ⟨by decide, by decide⟩ (Nat.le_of_ble_eq_true rfl) (fun x1 m2 => ?_)
  exact J_iretI dX8_sound_8 rfl rfl
def f_X8_together (F : Nat) (m : Mm) (P : Nat) (a1 : Int32) : Option (Int32 × Mm) :=
  if a1 < 0 then (some ((-1), m)) else (if a1 < ((1 : Int32) <<< ((m P 0) &&& 31)) then (bind2 (f_X8_floatsWithFull F m P a1) fun x1 m2 => if x1 = 0 then (some (0, m2)) else (some (1, m2))) else (some ((-1), m)))
set_option maxHeartbeats 4000000 in
set_option maxRecDepth 100000 in
theorem ct_X8_together (F : Nat) {n : Nat} (hn : 113 ≤ n) (P D : Nat) (T : Option Nat) (hP : isPl P) (m : Mm) (a1 : Int32) : Ct yX8_together cX8_together 2 (some .int) 3 69 [.ref 0, .int a1] n n m (RF P D T) (rI (RF P D T) (f_X8_together F m P a1)) := by
  refine Ct.ofI (own := RX8) (nm := "together") [(0, .ref 0), (1, .int a1)] (by decide) (Nat.le_of_ble_eq_true rfl) rfl rfl rfl ?_
  unfold f_X8_together
  refine J_iload_n 1 1 a1 dX8_together_0 rfl rfl ?_
  refine J_if_lt 17 dX8_together_1 (by decide) ?_ ?_
  · refine J_iconst (-1) dX8_together_17 (by decide) ?_
    exact J_iretI dX8_together_18 rfl rfl
  · refine J_iload_n 1 1 a1 dX8_together_4 rfl rfl ?_
    refine J_iconst 1 dX8_together_5 (by decide) ?_
    refine J_aload_n 0 0 0 dX8_together_6 rfl rfl ?_
    refine J_getR 0 8 9 P dX8_together_7 fl_8_64 rfl rfl (Nat.lt_of_lt_of_le (Nat.le_of_ble_eq_true rfl) hn) rfl ?_
    refine J_getI P 1 0 dX8_together_10 fl_8_297 (layc_Pl_0 hP) rfl (lt_Pl_0 hP hn) ?_
    refine J_ishl dX8_together_13 ?_
    refine J_icmp_lt 19 dX8_together_14 (by decide) ?_ ?_
    · refine J_aload_n 0 0 0 dX8_together_19 rfl rfl ?_
      refine J_iload_n 1 1 a1 dX8_together_20 rfl rfl ?_
      refine J_callVI 0 8 1 [.int a1] dX8_together_21 mv_X8_floatsWithFull mv_X8_floatsWithFullv lk_8_300 (ct_X8_floatsWithFull F hn P D T hP m a1) rfl rfl (by decide) rfl (Nat.lt_of_lt_of_le (Nat.le_of_ble_eq_true rfl) hn) ⟨by decide, by decide⟩ (Nat.le_of_ble_eq_true rfl) (fun x1 m2 => ?_)
      refine J_if_eq 31 dX8_together_24 (by decide) ?_ ?_
      · refine J_iconst 0 dX8_together_31 (by decide) ?_
        exact J_iretI dX8_together_32 rfl rfl
      · refine J_iconst 1 dX8_together_27 (by decide) ?_
        refine J_goto 32 dX8_together_28 (by decide) ?_
        exact J_iretI dX8_together_32 rfl rfl
    · refine J_iconst (-1) dX8_together_17 (by decide) ?_
      exact J_iretI dX8_together_18 rfl rfl
def f_X8_torn (m : Mm) : Option (Int32) :=
  some (m 0 12)
set_option maxHeartbeats 4000000 in
set_option maxRecDepth 100000 in
theorem ct_X8_torn (F : Nat) {n : Nat} (hn : 113 ≤ n) (P D : Nat) (T : Option Nat) (m : Mm)  : Ct yX8_torn cX8_torn 1 (some .int) 0 0 [.ref 0] n n m (RF P D T) (rP m (RF P D T) (f_X8_torn m)) := by
  refine Ct.ofP (own := RX8) (nm := "torn") [(0, .ref 0)] (by decide) (Nat.le_of_ble_eq_true rfl) rfl rfl rfl ?_
  unfold f_X8_torn
  refine J_aload_n 0 0 0 dX8_torn_0 rfl rfl ?_
  refine J_getI 0 8 12 dX8_torn_1 fl_8_350 rfl rfl (Nat.lt_of_lt_of_le (Nat.le_of_ble_eq_true rfl) hn) ?_
  exact J_iretP dX8_torn_4 rfl rfl
def f_X8_upright (F : Nat) (m : Mm) (P : Nat) (a1 : Int32) : Option (Int32 × Mm) :=
  if a1 < 0 then (some ((-1), m)) else (if a1 ≤ (2 : Int32) then (bind2 (f_X8_mostUprightSet F m P) fun x1 m2 => if x1 = ((-4) : Int32) then (some (x1, m2)) else (if a1 = 0 then (some (x1, m2)) else ((f_X3_weigh F m2 39 P 5 x1).bind fun m4 => if a1 = (1 : Int32) then (some (m4 39 1, m4)) else (some (m4 39 2, m4))))) else (some ((-1), m)))
set_option maxHeartbeats 4000000 in
set_option maxRecDepth 100000 in
theorem ct_X8_upright (F : Nat) {n : Nat} (hn : 113 ≤ n) (P D : Nat) (T : Option Nat) (hP : isPl P) (m : Mm) (a1 : Int32) : Ct yX8_upright cX8_upright 3 (some .int) 4 93 [.ref 0, .int a1] n n m (RF P D T) (rI (RF P D T) (f_X8_upright F m P a1)) := by
  refine Ct.ofI (own := RX8) (nm := "upright") [(0, .ref 0), (1, .int a1)] (by decide) (Nat.le_of_ble_eq_true rfl) rfl rfl rfl ?_
  unfold f_X8_upright
  refine J_iload_n 1 1 a1 dX8_upright_0 rfl rfl ?_
  refine J_if_lt 9 dX8_upright_1 (by decide) ?_ ?_
  · refine J_iconst (-1) dX8_upright_9 (by decide) ?_
    exact J_iretI dX8_upright_10 rfl rfl
  · refine J_iload_n 1 1 a1 dX8_upright_4 rfl rfl ?_
    refine J_iconst 2 dX8_upright_5 (by decide) ?_
    refine J_icmp_le 11 dX8_upright_6 (by decide) ?_ ?_
    · refine J_aload_n 0 0 0 dX8_upright_11 rfl rfl ?_
      refine J_callVI 0 8 0 [] dX8_upright_12 mv_X8_mostUprightSet mv_X8_mostUprightSetv lk_8_311 (ct_X8_mostUprightSet F hn P D T hP m) rfl rfl (by decide) rfl (Nat.lt_of_lt_of_le (Nat.le_of_ble_eq_true rfl) hn) ⟨by decide, by decide⟩ (Nat.le_of_ble_eq_true rfl) (fun x1 m2 => ?_)
      refine J_istore_n 2 [(2, .int x1), (0, .ref 0), (1, .int a1)] dX8_upright_15 rfl (by decide) rfl ?_
      refine J_iload_n 2 0 x1 dX8_upright_16 rfl rfl ?_
      refine J_bipush (-4) dX8_upright_17 (by decide) ?_
      refine J_icmp_eq 26 dX8_upright_19 (by decide) ?_ ?_
      · refine J_iload_n 2 0 x1 dX8_upright_26 rfl rfl ?_
        exact J_iretI dX8_upright_27 rfl rfl
      · refine J_iload_n 1 2 a1 dX8_upright_22 rfl rfl ?_
        refine J_if_ne 28 dX8_upright_23 (by decide) ?_ ?_
        · refine J_aload_n 0 1 0 dX8_upright_28 rfl rfl ?_
          refine J_getR 0 8 6 39 dX8_upright_29 fl_8_44 rfl rfl (Nat.lt_of_lt_of_le (Nat.le_of_ble_eq_true rfl) hn) rfl ?_
          refine J_aload_n 0 1 0 dX8_upright_32 rfl rfl ?_
          refine J_getR 0 8 9 P dX8_upright_33 fl_8_64 rfl rfl (Nat.lt_of_lt_of_le (Nat.le_of_ble_eq_true rfl) hn) rfl ?_
          refine J_aload_n 0 1 0 dX8_upright_36 rfl rfl ?_
          refine J_getR 0 8 1 4 dX8_upright_37 fl_8_19 rfl rfl (Nat.lt_of_lt_of_le (Nat.le_of_ble_eq_true rfl) hn) rfl ?_
          refine J_getR 4 7 4 5 dX8_upright_40 fl_8_123 rfl rfl (Nat.lt_of_lt_of_le (Nat.le_of_ble_eq_true rfl) hn) rfl ?_
          refine J_iload_n 2 0 x1 dX8_upright_43 rfl rfl ?_
          refine J_callVV 39 3 3 [.ref P, .ref 5, .int x1] dX8_upright_44 mv_X3_weigh mv_X3_weighv lk_8_207 (ct_X3_weigh F hn P D T m2 39 (by simp [isSc]) P hP 5 ⟨rfl, Nat.le_of_ble_eq_true rfl⟩ x1) rfl rfl (by decide) rfl (Nat.lt_of_lt_of_le (Nat.le_of_ble_eq_true rfl) hn) ⟨by decide, by decide⟩ (Nat.le_of_ble_eq_true rfl) (fun m4 => ?_)
          refine J_iload_n 1 2 a1 dX8_upright_47 rfl rfl ?_
          refine J_iconst 1 dX8_upright_48 (by decide) ?_
          refine J_icmp_ne 62 dX8_upright_49 (by decide) ?_ ?_
          · refine J_aload_n 0 1 0 dX8_upright_62 rfl rfl ?_
            refine J_getR 0 8 6 39 dX8_upright_63 fl_8_44 rfl rfl (Nat.lt_of_lt_of_le (Nat.le_of_ble_eq_true rfl) hn) rfl ?_
            refine J_getI 39 3 2 dX8_upright_66 fl_8_220 rfl rfl (Nat.lt_of_lt_of_le (Nat.le_of_ble_eq_true rfl) hn) ?_
            exact J_iretI dX8_upright_69 rfl rfl
          · refine J_aload_n 0 1 0 dX8_upright_52 rfl rfl ?_
            refine J_getR 0 8 6 39 dX8_upright_53 fl_8_44 rfl rfl (Nat.lt_of_lt_of_le (Nat.le_of_ble_eq_true rfl) hn) rfl ?_
            refine J_getI 39 3 1 dX8_upright_56 fl_8_217 rfl rfl (Nat.lt_of_lt_of_le (Nat.le_of_ble_eq_true rfl) hn) ?_
            refine J_goto 69 dX8_upright_59 (by decide) ?_
            exact J_iretI dX8_upright_69 rfl rfl
        · refine J_iload_n 2 0 x1 dX8_upright_26 rfl rfl ?_
          exact J_iretI dX8_upright_27 rfl rfl
    · refine J_iconst (-1) dX8_upright_9 (by decide) ?_
      exact J_iretI dX8_upright_10 rfl rfl
def f_X8_water (F : Nat) (m : Mm) (P : Nat) (a1 : Int32) (a2 : Int32) : Option (Int32 × Mm) :=
  if a1 < (1 : Int32) then (some ((-1), m)) else (if (120 : Int32) < a1 then (some ((-1), m)) else ((f_X8_isHold m P a2).bind fun x1 => if x1 = 0 then (some ((-1), m)) else ((f_X7_copyFrom m 18 4).bind fun m4 => bind2 (f_X7_minutesAfloat F m4 18 P a1) fun x5 m6 => (ald m6 19 8 a2).bind fun x7 => some (x7, m6))))
set_option maxHeartbeats 4000000 in
set_option maxRecDepth 100000 in
theorem ct_X8_water (F : Nat) {n : Nat} (hn : 113 ≤ n) (P D : Nat) (T : Option Nat) (hP : isPl P) (m : Mm) (a1 : Int32) (a2 : Int32) : Ct yX8_water cX8_water 3 (some .int) 5 115 [.ref 0, .int a1, .int a2] n n m (RF P D T) (rI (RF P D T) (f_X8_water F m P a1 a2)) := by
  refine Ct.ofI (own := RX8) (nm := "water") [(0, .ref 0), (1, .int a1), (2, .int a2)] (by decide) (Nat.le_of_ble_eq_true rfl) rfl rfl rfl ?_
  unfold f_X8_water
  refine J_iload_n 1 1 a1 dX8_water_0 rfl rfl ?_
  refine J_iconst 1 dX8_water_1 (by decide) ?_
  refine J_icmp_lt 19 dX8_water_2 (by decide) ?_ ?_
  · refine J_iconst (-1) dX8_water_19 (by decide) ?_
    exact J_iretI dX8_water_20 rfl rfl
  · refine J_iload_n 1 1 a1 dX8_water_5 rfl rfl ?_
    refine J_bipush 120 dX8_water_6 (by decide) ?_
    refine J_icmp_gt 19 dX8_water_8 (by decide) ?_ ?_
    · refine J_iconst (-1) dX8_water_19 (by decide) ?_
      exact J_iretI dX8_water_20 rfl rfl
    · refine J_aload_n 0 0 0 dX8_water_11 rfl rfl ?_
      refine J_iload_n 2 2 a2 dX8_water_12 rfl rfl ?_
      refine J_callVP 0 8 1 [.int a2] dX8_water_13 mv_X8_isHold mv_X8_isHoldv lk_8_109 (ct_X8_isHold F hn P D T hP m a2) rfl rfl (by decide) rfl (Nat.lt_of_lt_of_le (Nat.le_of_ble_eq_true rfl) hn) ⟨by decide, by decide⟩ (Nat.le_of_ble_eq_true rfl) (fun x1 => ?_)
      refine J_if_ne 21 dX8_water_16 (by decide) ?_ ?_
      · refine J_aload_n 0 0 0 dX8_water_21 rfl rfl ?_
        refine J_getR 0 8 2 18 dX8_water_22 fl_8_23 rfl rfl (Nat.lt_of_lt_of_le (Nat.le_of_ble_eq_true rfl) hn) rfl ?_
        refine J_aload_n 0 0 0 dX8_water_25 rfl rfl ?_
        refine J_getR 0 8 1 4 dX8_water_26 fl_8_19 rfl rfl (Nat.lt_of_lt_of_le (Nat.le_of_ble_eq_true rfl) hn) rfl ?_
        refine J_callVV 18 7 1 [.ref 4] dX8_water_29 mv_X7_copyFrom mv_X7_copyFromv lk_8_229 (ct_X7_copyFrom F hn P D T m 18 (by simp [isSt]) 4 (by simp [isSt])) rfl rfl (by decide) rfl (Nat.lt_of_lt_of_le (Nat.le_of_ble_eq_true rfl) hn) ⟨by decide, by decide⟩ (Nat.le_of_ble_eq_true rfl) (fun m4 => ?_)
        refine J_aload_n 0 0 0 dX8_water_32 rfl rfl ?_
        refine J_getR 0 8 2 18 dX8_water_33 fl_8_23 rfl rfl (Nat.lt_of_lt_of_le (Nat.le_of_ble_eq_true rfl) hn) rfl ?_
        refine J_aload_n 0 0 0 dX8_water_36 rfl rfl ?_
        refine J_getR 0 8 9 P dX8_water_37 fl_8_64 rfl rfl (Nat.lt_of_lt_of_le (Nat.le_of_ble_eq_true rfl) hn) rfl ?_
        refine J_iload_n 1 1 a1 dX8_water_40 rfl rfl ?_
        refine J_callVI 18 7 2 [.ref P, .int a1] dX8_water_41 mv_X7_minutesAfloat mv_X7_minutesAfloatv lk_8_261 (ct_X7_minutesAfloat F hn P D T m4 18 (by simp [isSt]) P hP a1) rfl rfl (by decide) rfl (Nat.lt_of_lt_of_le (Nat.le_of_ble_eq_true rfl) hn) ⟨by decide, by decide⟩ (Nat.le_of_ble_eq_true rfl) (fun x5 m6 => ?_)
        refine J_pop dX8_water_44 rfl ?_
        refine J_aload_n 0 0 0 dX8_water_45 rfl rfl ?_
        refine J_getR 0 8 2 18 dX8_water_46 fl_8_23 rfl rfl (Nat.lt_of_lt_of_le (Nat.le_of_ble_eq_true rfl) hn) rfl ?_
        refine J_getR 18 7 4 19 dX8_water_49 fl_8_123 rfl rfl (Nat.lt_of_lt_of_le (Nat.le_of_ble_eq_true rfl) hn) rfl ?_
        refine J_iload_n 2 2 a2 dX8_water_52 rfl rfl ?_
        refine J_iald 19 8 dX8_water_53 rfl (Nat.lt_of_lt_of_le (Nat.le_of_ble_eq_true rfl) hn) (fun x7 => ?_)
        exact J_iretI dX8_water_54 rfl rfl
      · refine J_iconst (-1) dX8_water_19 (by decide) ?_
        exact J_iretI dX8_water_20 rfl rfl
def f_X8_wipe (m : Mm) : Option (Int32 × Mm) :=
  bind2 (f_X6_clear m) fun x1 m2 => some (x1, m2)
set_option maxHeartbeats 4000000 in
set_option maxRecDepth 100000 in
theorem ct_X8_wipe (F : Nat) {n : Nat} (hn : 113 ≤ n) (P D : Nat) (T : Option Nat) (m : Mm)  : Ct yX8_wipe cX8_wipe 1 (some .int) 1 21 [.ref 0] n n m (RF P D T) (rI (RF P D T) (f_X8_wipe m)) := by
  refine Ct.ofI (own := RX8) (nm := "wipe") [(0, .ref 0)] (by decide) (Nat.le_of_ble_eq_true rfl) rfl rfl rfl ?_
  unfold f_X8_wipe
  refine J_aload_n 0 0 0 dX8_wipe_0 rfl rfl ?_
  refine J_getR 0 8 7 40 dX8_wipe_1 fl_8_51 rfl rfl (Nat.lt_of_lt_of_le (Nat.le_of_ble_eq_true rfl) hn) rfl ?_
  refine J_callVI 40 6 0 [] dX8_wipe_4 mv_X6_clear mv_X6_clearv lk_8_328 (ct_X6_clear F hn P D T m) rfl rfl (by decide) rfl (Nat.lt_of_lt_of_le (Nat.le_of_ble_eq_true rfl) hn) ⟨by decide, by decide⟩ (Nat.le_of_ble_eq_true rfl) (fun x1 m2 => ?_)
  exact J_iretI dX8_wipe_7 rfl rfl
def f_X9_flag (a0 : Int32) : Option (Int32) :=
  if a0 = 0 then (some 0) else (some 1)
set_option maxHeartbeats 4000000 in
set_option maxRecDepth 100000 in
theorem ct_X9_flag (F : Nat) {n : Nat} (hn : 135 ≤ n) (P D : Nat) (T : Option Nat) (m : Mm) (a0 : Int32) : Ct yX9_flag cX9_flag 1 (some .int) 0 0 [.int a0] n n m (RF P D T) (rP m (RF P D T) (f_X9_flag a0)) := by
  refine Ct.ofP (own := RX9) (nm := "flag") [(0, .int a0)] (by decide) (Nat.le_of_ble_eq_true rfl) rfl rfl rfl ?_
  unfold f_X9_flag
  refine J_iload_n 0 0 a0 dX9_flag_0 rfl rfl ?_
  refine J_if_eq 8 dX9_flag_1 (by decide) ?_ ?_
  · refine J_iconst 0 dX9_flag_8 (by decide) ?_
    exact J_iretP dX9_flag_9 rfl rfl
  · refine J_iconst 1 dX9_flag_4 (by decide) ?_
    refine J_goto 9 dX9_flag_5 (by decide) ?_
    exact J_iretP dX9_flag_9 rfl rfl
def f_X9_in (a0 : Int64) (a2 : Int64) (a4 : Int64) : Option (Int32) :=
  if (lg_cmp a0 a2) < 0 then (some 0) else (if 0 < (lg_cmp a0 a4) then (some 0) else (some 1))
set_option maxHeartbeats 4000000 in
set_option maxRecDepth 100000 in
theorem ct_X9_in (F : Nat) {n : Nat} (hn : 135 ≤ n) (P D : Nat) (T : Option Nat) (m : Mm) (a0 : Int64) (a2 : Int64) (a4 : Int64) : Ct yX9_in cX9_in 6 (some .boolean) 0 0 [.long a0, .long a2, .long a4] n n m (RF P D T) (rP m (RF P D T) (f_X9_in a0 a2 a4)) := by
  refine Ct.ofP (own := RX9) (nm := "in") [(0, .long a0), (2, .long a2), (4, .long a4)] (by decide) (Nat.le_of_ble_eq_true rfl) rfl rfl rfl ?_
  unfold f_X9_in
  refine J_lload_n 0 0 a0 dX9_in_0 rfl rfl ?_
  refine J_lload_n 2 1 a2 dX9_in_1 rfl rfl ?_
  refine J_lcmp dX9_in_2 ?_
  refine J_if_lt 17 dX9_in_3 (by decide) ?_ ?_
  · refine J_iconst 0 dX9_in_17 (by decide) ?_
    exact J_zretP dX9_in_18 rfl rfl rfl
  · refine J_lload_n 0 0 a0 dX9_in_6 rfl rfl ?_
    refine J_lload 4 2 a4 dX9_in_7 rfl ?_
    refine J_lcmp dX9_in_9 ?_
    refine J_if_gt 17 dX9_in_10 (by decide) ?_ ?_
    · refine J_iconst 0 dX9_in_17 (by decide) ?_
      exact J_zretP dX9_in_18 rfl rfl rfl
    · refine J_iconst 1 dX9_in_13 (by decide) ?_
      refine J_goto 18 dX9_in_14 (by decide) ?_
      exact J_zretP dX9_in_18 rfl rfl rfl
def f_X9_needs (m : Mm) (a1 : Int32) (a2 : Int32) : Option (Mm) :=
  if a1 = 0 then (if (m 113 27) = 0 then (letv (up2 m 113 27 a2) fun m1 => letv (up2 m1 113 28 (m1 113 24)) fun m2 => some m2) else (some m)) else (some m)
set_option maxHeartbeats 4000000 in
set_option maxRecDepth 100000 in
theorem ct_X9_needs (F : Nat) {n : Nat} (hn : 135 ≤ n) (P D : Nat) (T : Option Nat) (m : Mm) (a1 : Int32) (a2 : Int32) : Ct yX9_needs cX9_needs 3 none 0 0 [.ref 113, .int a1, .int a2] n n m (RF P D T) (rV (RF P D T) (f_X9_needs m a1 a2)) := by
  refine Ct.ofV (own := RX9) (nm := "needs") [(0, .ref 113), (1, .int a1), (2, .int a2)] (by decide) (Nat.le_of_ble_eq_true rfl) rfl rfl rfl ?_
  unfold f_X9_needs
  refine J_iload_n 1 1 a1 dX9_needs_0 rfl rfl ?_
  refine J_if_ne 24 dX9_needs_1 (by decide) ?_ ?_
  · exact J_vretV dX9_needs_24 rfl rfl
  · refine J_aload_n 0 0 113 dX9_needs_4 rfl rfl ?_
    refine J_getI 113 9 27 dX9_needs_5 fl_9_118 rfl rfl (Nat.lt_of_lt_of_le (Nat.le_of_ble_eq_true rfl) hn) ?_
    refine J_if_ne 24 dX9_needs_8 (by decide) ?_ ?_
    · exact J_vretV dX9_needs_24 rfl rfl
    · refine J_aload_n 0 0 113 dX9_needs_11 rfl rfl ?_
      refine J_iload_n 2 2 a2 dX9_needs_12 rfl rfl ?_
      refine J_putI 113 9 27 dX9_needs_13 fl_9_118 rfl rfl (Nat.lt_of_lt_of_le (Nat.le_of_ble_eq_true rfl) hn) rfl rfl rfl (fun m1 => ?_)
      refine J_aload_n 0 0 113 dX9_needs_16 rfl rfl ?_
      refine J_aload_n 0 0 113 dX9_needs_17 rfl rfl ?_
      refine J_getI 113 9 24 dX9_needs_18 fl_9_121 rfl rfl (Nat.lt_of_lt_of_le (Nat.le_of_ble_eq_true rfl) hn) ?_
      refine J_putI 113 9 28 dX9_needs_21 fl_9_124 rfl rfl (Nat.lt_of_lt_of_le (Nat.le_of_ble_eq_true rfl) hn) rfl rfl rfl (fun m2 => ?_)
      exact J_vretV dX9_needs_24 rfl rfl
def f_X9_isNumber (m : Mm) (a1 : Int32) (a2 : Int32) : Option (Mm) :=
  (if (m 113 27) = 0 then ((if (m 113 25) = (2 : Int32) then (some 1) else (some 0) : Option (Int32)).bind fun y2 => (f_X9_needs m y2 2).bind fun m4 => some m4) else (some m) : Option (Mm)).bind fun y1 => if (y1 113 27) = 0 then ((f_X9_in ((y1 113 26).toInt64) a1.toInt64 a2.toInt64).bind fun x5 => (f_X9_needs y1 x5 3).bind fun m8 => some m8) else (some y1)
set_option maxHeartbeats 4000000 in
set_option maxRecDepth 100000 in
theorem ct_X9_isNumber (F : Nat) {n : Nat} (hn : 135 ≤ n) (P D : Nat) (T : Option Nat) (m : Mm) (a1 : Int32) (a2 : Int32) : Ct yX9_isNumber cX9_isNumber 3 none 1 25 [.ref 113, .int a1, .int a2] n n m (RF P D T) (rV (RF P D T) (f_X9_isNumber m a1 a2)) := by
  refine Ct.ofV (own := RX9) (nm := "isNumber") [(0, .ref 113), (1, .int a1), (2, .int a2)] (by decide) (Nat.le_of_ble_eq_true rfl) rfl rfl rfl ?_
  unfold f_X9_isNumber
  refine J_aload_n 0 0 113 dX9_isNumber_0 rfl rfl ?_
  refine J_getI 113 9 27 dX9_isNumber_1 fl_9_118 rfl rfl (Nat.lt_of_lt_of_le (Nat.le_of_ble_eq_true rfl) hn) ?_
  refine J_seqJ 25 (fun y1 : Mm => [(0, .ref 113), (1, .int a1), (2, .int a2)]) (fun y1 => []) (fun y1 => y1) (fun y1 => ?_) (fun k1 hEy1 => ?_)
  · refine J_aload_n 0 0 113 dX9_isNumber_25 rfl rfl ?_
    refine J_getI 113 9 27 dX9_isNumber_26 fl_9_118 rfl rfl (Nat.lt_of_lt_of_le (Nat.le_of_ble_eq_true rfl) hn) ?_
    refine J_if_ne 49 dX9_isNumber_29 (by decide) ?_ ?_
    · exact J_vretV dX9_isNumber_49 rfl rfl
    · refine J_aload_n 0 0 113 dX9_isNumber_32 rfl rfl ?_
      refine J_aload_n 0 0 113 dX9_isNumber_33 rfl rfl ?_
      refine J_getI 113 9 26 dX9_isNumber_34 fl_9_149 rfl rfl (Nat.lt_of_lt_of_le (Nat.le_of_ble_eq_true rfl) hn) ?_
      refine J_i2l dX9_isNumber_37 ?_
      refine J_iload_n 1 1 a1 dX9_isNumber_38 rfl rfl ?_
      refine J_i2l dX9_isNumber_39 ?_
      refine J_iload_n 2 2 a2 dX9_isNumber_40 rfl rfl ?_
      refine J_i2l dX9_isNumber_41 ?_
      refine J_callSP 3 [.long ((y1 113 26).toInt64), .long a1.toInt64, .long a2.toInt64] dX9_isNumber_42 mv_X9_in mv_X9_ins lk_9_114 (ct_X9_in F hn P D T y1 ((y1 113 26).toInt64) a1.toInt64 a2.toInt64) rfl ⟨by decide, by decide⟩ (Nat.le_of_ble_eq_true rfl) (fun x5 => ?_)
      refine J_iconst 3 dX9_isNumber_45 (by decide) ?_
      refine J_callVV 113 9 2 [.int x5, .int 3] dX9_isNumber_46 mv_X9_needs mv_X9_needsv lk_9_152 (ct_X9_needs F hn P D T y1 x5 3) rfl rfl (by decide) rfl (Nat.lt_of_lt_of_le (Nat.le_of_ble_eq_true rfl) hn) ⟨by decide, by decide⟩ (Nat.le_of_ble_eq_true rfl) (fun m8 => ?_)
      exact J_vretV dX9_isNumber_49 rfl rfl
  · refine J_if_ne 25 dX9_isNumber_4 (by decide) ?_ ?_
    · exact J_lv [0, 1, 2] rfl (hEy1 m)
    · refine J_aload_n 0 0 113 dX9_isNumber_7 rfl rfl ?_
      refine J_aload_n 0 0 113 dX9_isNumber_8 rfl rfl ?_
      refine J_getI 113 9 25 dX9_isNumber_9 fl_9_138 rfl rfl (Nat.lt_of_lt_of_le (Nat.le_of_ble_eq_true rfl) hn) ?_
      refine J_iconst 2 dX9_isNumber_12 (by decide) ?_
      refine J_seqJ 21 (fun y2 : Int32 => [(0, .ref 113), (1, .int a1), (2, .int a2)]) (fun y2 => [.int y2, .ref 113]) (fun y2 => m) (fun y2 => ?_) (fun k1 hEy2 => ?_)
      · refine J_iconst 2 dX9_isNumber_21 (by decide) ?_
        refine J_callVV 113 9 2 [.int y2, .int 2] dX9_isNumber_22 mv_X9_needs mv_X9_needsv lk_9_152 (ct_X9_needs F hn P D T m y2 2) rfl rfl (by decide) rfl (Nat.lt_of_lt_of_le (Nat.le_of_ble_eq_true rfl) hn) ⟨by decide, by decide⟩ (Nat.le_of_ble_eq_true rfl) (fun m4 => ?_)
        exact J_lv [0, 1, 2] rfl (hEy1 m4)
      · refine J_icmp_ne 20 dX9_isNumber_13 (by decide) ?_ ?_
        · refine J_iconst 0 dX9_isNumber_20 (by decide) ?_
          exact J_lv [0, 1, 2] rfl (hEy2 0)
        · refine J_iconst 1 dX9_isNumber_16 (by decide) ?_
          refine J_goto 21 dX9_isNumber_17 (by decide) ?_
          exact J_lv [0, 1, 2] rfl (hEy2 1)
def f_X9_look (m : Mm) (a1 : Int32) : Option (Int32) :=
  if (m 113 22) ≤ a1 then (some (-1)) else ((ald m 127 400 a1).bind fun x1 => some x1)
set_option maxHeartbeats 4000000 in
set_option maxRecDepth 100000 in
theorem ct_X9_look (F : Nat) {n : Nat} (hn : 135 ≤ n) (P D : Nat) (T : Option Nat) (m : Mm) (a1 : Int32) : Ct yX9_look cX9_look 2 (some .int) 0 0 [.ref 113, .int a1] n n m (RF P D T) (rP m (RF P D T) (f_X9_look m a1)) := by
  refine Ct.ofP (own := RX9) (nm := "look") [(0, .ref 113), (1, .int a1)] (by decide) (Nat.le_of_ble_eq_true rfl) rfl rfl rfl ?_
  unfold f_X9_look
  refine J_iload_n 1 1 a1 dX9_look_0 rfl rfl ?_
  refine J_aload_n 0 0 113 dX9_look_1 rfl rfl ?_
  refine J_getI 113 9 22 dX9_look_2 fl_9_109 rfl rfl (Nat.lt_of_lt_of_le (Nat.le_of_ble_eq_true rfl) hn) ?_
  refine J_icmp_ge 17 dX9_look_5 (by decide) ?_ ?_
  · refine J_iconst (-1) dX9_look_17 (by decide) ?_
    exact J_iretP dX9_look_18 rfl rfl
  · refine J_aload_n 0 0 113 dX9_look_8 rfl rfl ?_
    refine J_getR 113 9 21 127 dX9_look_9 fl_9_50 rfl rfl (Nat.lt_of_lt_of_le (Nat.le_of_ble_eq_true rfl) hn) rfl ?_
    refine J_iload_n 1 1 a1 dX9_look_12 rfl rfl ?_
    refine J_iald 127 400 dX9_look_13 rfl (Nat.lt_of_lt_of_le (Nat.le_of_ble_eq_true rfl) hn) (fun x1 => ?_)
    refine J_goto 18 dX9_look_14 (by decide) ?_
    exact J_iretP dX9_look_18 rfl rfl
def f_X9_is (m : Mm) (a1 : Int32) (a2 : Int32) (a3 : Int32) (a4 : Int32) (a5 : Int32) : Option (Int32) :=
  if ((m 113 23) - (m 113 24)) = a1 then ((f_X9_look m (m 113 24)).bind fun x1 => if x1 = a2 then ((f_X9_look m ((m 113 24) + (1 : Int32))).bind fun x3 => if x3 = a3 then ((f_X9_look m ((m 113 24) + (2 : Int32))).bind fun x5 => if x5 = a4 then ((f_X9_look m ((m 113 24) + (3 : Int32))).bind fun x7 => if x7 = a5 then (some 1) else (some 0)) else (some 0)) else (some 0)) else (some 0)) else (some 0)
set_option maxHeartbeats 4000000 in
set_option maxRecDepth 100000 in
theorem ct_X9_is (F : Nat) {n : Nat} (hn : 135 ≤ n) (P D : Nat) (T : Option Nat) (m : Mm) (a1 : Int32) (a2 : Int32) (a3 : Int32) (a4 : Int32) (a5 : Int32) : Ct yX9_is cX9_is 6 (some .boolean) 1 21 [.ref 113, .int a1, .int a2, .int a3, .int a4, .int a5] n n m (RF P D T) (rP m (RF P D T) (f_X9_is m a1 a2 a3 a4 a5)) := by
  refine Ct.ofP (own := RX9) (nm := "is") [(0, .ref 113), (1, .int a1), (2, .int a2), (3, .int a3), (4, .int a4), (5, .int a5)] (by decide) (Nat.le_of_ble_eq_true rfl) rfl rfl rfl ?_
  unfold f_X9_is
  refine J_aload_n 0 0 113 dX9_is_0 rfl rfl ?_
  refine J_getI 113 9 23 dX9_is_1 fl_9_127 rfl rfl (Nat.lt_of_lt_of_le (Nat.le_of_ble_eq_true rfl) hn) ?_
  refine J_aload_n 0 0 113 dX9_is_4 rfl rfl ?_
  refine J_getI 113 9 24 dX9_is_5 fl_9_121 rfl rfl (Nat.lt_of_lt_of_le (Nat.le_of_ble_eq_true rfl) hn) ?_
  refine J_isub dX9_is_8 ?_
  refine J_iload_n 1 1 a1 dX9_is_9 rfl rfl ?_
  refine J_icmp_ne 73 dX9_is_10 (by decide) ?_ ?_
  · refine J_iconst 0 dX9_is_73 (by decide) ?_
    exact J_zretP dX9_is_74 rfl rfl rfl
  · refine J_aload_n 0 0 113 dX9_is_13 rfl rfl ?_
    refine J_aload_n 0 0 113 dX9_is_14 rfl rfl ?_
    refine J_getI 113 9 24 dX9_is_15 fl_9_121 rfl rfl (Nat.lt_of_lt_of_le (Nat.le_of_ble_eq_true rfl) hn) ?_
    refine J_callVP 113 9 1 [.int (m 113 24)] dX9_is_18 mv_X9_look mv_X9_lookv lk_9_130 (ct_X9_look F hn P D T m (m 113 24)) rfl rfl (by decide) rfl (Nat.lt_of_lt_of_le (Nat.le_of_ble_eq_true rfl) hn) ⟨by decide, by decide⟩ (Nat.le_of_ble_eq_true rfl) (fun x1 => ?_)
    refine J_iload_n 2 2 a2 dX9_is_21 rfl rfl ?_
    refine J_icmp_ne 73 dX9_is_22 (by decide) ?_ ?_
    · refine J_iconst 0 dX9_is_73 (by decide) ?_
      exact J_zretP dX9_is_74 rfl rfl rfl
    · refine J_aload_n 0 0 113 dX9_is_25 rfl rfl ?_
      refine J_aload_n 0 0 113 dX9_is_26 rfl rfl ?_
      refine J_getI 113 9 24 dX9_is_27 fl_9_121 rfl rfl (Nat.lt_of_lt_of_le (Nat.le_of_ble_eq_true rfl) hn) ?_
      refine J_iconst 1 dX9_is_30 (by decide) ?_
      refine J_iadd dX9_is_31 ?_
      refine J_callVP 113 9 1 [.int ((m 113 24) + (1 : Int32))] dX9_is_32 mv_X9_look mv_X9_lookv lk_9_130 (ct_X9_look F hn P D T m ((m 113 24) + (1 : Int32))) rfl rfl (by decide) rfl (Nat.lt_of_lt_of_le (Nat.le_of_ble_eq_true rfl) hn) ⟨by decide, by decide⟩ (Nat.le_of_ble_eq_true rfl) (fun x3 => ?_)
      refine J_iload_n 3 3 a3 dX9_is_35 rfl rfl ?_
      refine J_icmp_ne 73 dX9_is_36 (by decide) ?_ ?_
      · refine J_iconst 0 dX9_is_73 (by decide) ?_
        exact J_zretP dX9_is_74 rfl rfl rfl
      · refine J_aload_n 0 0 113 dX9_is_39 rfl rfl ?_
        refine J_aload_n 0 0 113 dX9_is_40 rfl rfl ?_
        refine J_getI 113 9 24 dX9_is_41 fl_9_121 rfl rfl (Nat.lt_of_lt_of_le (Nat.le_of_ble_eq_true rfl) hn) ?_
        refine J_iconst 2 dX9_is_44 (by decide) ?_
        refine J_iadd dX9_is_45 ?_
        refine J_callVP 113 9 1 [.int ((m 113 24) + (2 : Int32))] dX9_is_46 mv_X9_look mv_X9_lookv lk_9_130 (ct_X9_look F hn P D T m ((m 113 24) + (2 : Int32))) rfl rfl (by decide) rfl (Nat.lt_of_lt_of_le (Nat.le_of_ble_eq_true rfl) hn) ⟨by decide, by decide⟩ (Nat.le_of_ble_eq_true rfl) (fun x5 => ?_)
        refine J_iload 4 4 a4 dX9_is_49 rfl ?_
        refine J_icmp_ne 73 dX9_is_51 (by decide) ?_ ?_
        · refine J_iconst 0 dX9_is_73 (by decide) ?_
          exact J_zretP dX9_is_74 rfl rfl rfl
        · refine J_aload_n 0 0 113 dX9_is_54 rfl rfl ?_
          refine J_aload_n 0 0 113 dX9_is_55 rfl rfl ?_
          refine J_getI 113 9 24 dX9_is_56 fl_9_121 rfl rfl (Nat.lt_of_lt_of_le (Nat.le_of_ble_eq_true rfl) hn) ?_
          refine J_iconst 3 dX9_is_59 (by decide) ?_
          refine J_iadd dX9_is_60 ?_
          refine J_callVP 113 9 1 [.int ((m 113 24) + (3 : Int32))] dX9_is_61 mv_X9_look mv_X9_lookv lk_9_130 (ct_X9_look F hn P D T m ((m 113 24) + (3 : Int32))) rfl rfl (by decide) rfl (Nat.lt_of_lt_of_le (Nat.le_of_ble_eq_true rfl) hn) ⟨by decide, by decide⟩ (Nat.le_of_ble_eq_true rfl) (fun x7 => ?_)
          refine J_iload 5 5 a5 dX9_is_64 rfl ?_
          refine J_icmp_ne 73 dX9_is_66 (by decide) ?_ ?_
          · refine J_iconst 0 dX9_is_73 (by decide) ?_
            exact J_zretP dX9_is_74 rfl rfl rfl
          · refine J_iconst 1 dX9_is_69 (by decide) ?_
            refine J_goto 74 dX9_is_70 (by decide) ?_
            exact J_zretP dX9_is_74 rfl rfl rfl
def f_X9_nameNow (m : Mm) : Option (Int32) :=
  (f_X9_is m 4 104 111 108 100).bind fun x1 => if x1 = 0 then ((f_X9_is m 4 100 111 111 114).bind fun x3 => if x3 = 0 then ((f_X9_is m 4 104 111 108 101).bind fun x5 => if x5 = 0 then ((f_X9_is m 4 112 117 109 112).bind fun x7 => if x7 = 0 then ((f_X9_is m 5 99 114 101 119).bind fun x9 => letv (fun y11 : Unit => (f_X9_is m 5 115 105 110 107).bind fun x15 => letv (fun y17 : Unit => (f_X9_is m 5 108 105 115 116).bind fun x21 => letv (fun y23 : Unit => (f_X9_is m 5 116 114 105 109).bind fun x27 => letv (fun y29 : Unit => (f_X9_is m 4 115 97 102 101).bind fun x33 => if x33 = 0 then ((f_X9_is m 4 115 104 117 116).bind fun x35 => if x35 = 0 then (some (-4)) else (some 14)) else (some 4)) fun j30 => if x27 = 0 then (j30 ()) else ((f_X9_look m ((m 113 24) + (4 : Int32))).bind fun x31 => if x31 = (115 : Int32) then (some 3) else (j30 ()))) fun j24 => if x21 = 0 then (j24 ()) else ((f_X9_look m ((m 113 24) + (4 : Int32))).bind fun x25 => if x25 = (115 : Int32) then (some 2) else (j24 ()))) fun j18 => if x15 = 0 then (j18 ()) else ((f_X9_look m ((m 113 24) + (4 : Int32))).bind fun x19 => if x19 = (115 : Int32) then (some 1) else (j18 ()))) fun j12 => if x9 = 0 then (j12 ()) else ((f_X9_look m ((m 113 24) + (4 : Int32))).bind fun x13 => if x13 = (115 : Int32) then (some 0) else (j12 ()))) else (some 13)) else (some 12)) else (some 11)) else (some 10)
set_option maxHeartbeats 4000000 in
set_option maxRecDepth 100000 in
theorem ct_X9_nameNow (F : Nat) {n : Nat} (hn : 135 ≤ n) (P D : Nat) (T : Option Nat) (m : Mm)  : Ct yX9_nameNow cX9_nameNow 1 (some .int) 2 46 [.ref 113] n n m (RF P D T) (rP m (RF P D T) (f_X9_nameNow m)) := by
  refine Ct.ofP (own := RX9) (nm := "nameNow") [(0, .ref 113)] (by decide) (Nat.le_of_ble_eq_true rfl) rfl rfl rfl ?_
  unfold f_X9_nameNow
  refine J_aload_n 0 0 113 dX9_nameNow_0 rfl rfl ?_
  refine J_iconst 4 dX9_nameNow_1 (by decide) ?_
  refine J_bipush 104 dX9_nameNow_2 (by decide) ?_
  refine J_bipush 111 dX9_nameNow_4 (by decide) ?_
  refine J_bipush 108 dX9_nameNow_6 (by decide) ?_
  refine J_bipush 100 dX9_nameNow_8 (by decide) ?_
  refine J_callVP 113 9 5 [.int 4, .int 104, .int 111, .int 108, .int 100] dX9_nameNow_10 mv_X9_is mv_X9_isv lk_9_134 (ct_X9_is F hn P D T m 4 104 111 108 100) rfl rfl (by decide) rfl (Nat.lt_of_lt_of_le (Nat.le_of_ble_eq_true rfl) hn) ⟨by decide, by decide⟩ (Nat.le_of_ble_eq_true rfl) (fun x1 => ?_)
  refine J_if_eq 19 dX9_nameNow_13 (by decide) ?_ ?_
  · refine J_aload_n 0 0 113 dX9_nameNow_19 rfl rfl ?_
    refine J_iconst 4 dX9_nameNow_20 (by decide) ?_
    refine J_bipush 100 dX9_nameNow_21 (by decide) ?_
    refine J_bipush 111 dX9_nameNow_23 (by decide) ?_
    refine J_bipush 111 dX9_nameNow_25 (by decide) ?_
    refine J_bipush 114 dX9_nameNow_27 (by decide) ?_
    refine J_callVP 113 9 5 [.int 4, .int 100, .int 111, .int 111, .int 114] dX9_nameNow_29 mv_X9_is mv_X9_isv lk_9_134 (ct_X9_is F hn P D T m 4 100 111 111 114) rfl rfl (by decide) rfl (Nat.lt_of_lt_of_le (Nat.le_of_ble_eq_true rfl) hn) ⟨by decide, by decide⟩ (Nat.le_of_ble_eq_true rfl) (fun x3 => ?_)
    refine J_if_eq 38 dX9_nameNow_32 (by decide) ?_ ?_
    · refine J_aload_n 0 0 113 dX9_nameNow_38 rfl rfl ?_
      refine J_iconst 4 dX9_nameNow_39 (by decide) ?_
      refine J_bipush 104 dX9_nameNow_40 (by decide) ?_
      refine J_bipush 111 dX9_nameNow_42 (by decide) ?_
      refine J_bipush 108 dX9_nameNow_44 (by decide) ?_
      refine J_bipush 101 dX9_nameNow_46 (by decide) ?_
      refine J_callVP 113 9 5 [.int 4, .int 104, .int 111, .int 108, .int 101] dX9_nameNow_48 mv_X9_is mv_X9_isv lk_9_134 (ct_X9_is F hn P D T m 4 104 111 108 101) rfl rfl (by decide) rfl (Nat.lt_of_lt_of_le (Nat.le_of_ble_eq_true rfl) hn) ⟨by decide, by decide⟩ (Nat.le_of_ble_eq_true rfl) (fun x5 => ?_)
      refine J_if_eq 57 dX9_nameNow_51 (by decide) ?_ ?_
      · refine J_aload_n 0 0 113 dX9_nameNow_57 rfl rfl ?_
        refine J_iconst 4 dX9_nameNow_58 (by decide) ?_
        refine J_bipush 112 dX9_nameNow_59 (by decide) ?_
        refine J_bipush 117 dX9_nameNow_61 (by decide) ?_
        refine J_bipush 109 dX9_nameNow_63 (by decide) ?_
        refine J_bipush 112 dX9_nameNow_65 (by decide) ?_
        refine J_callVP 113 9 5 [.int 4, .int 112, .int 117, .int 109, .int 112] dX9_nameNow_67 mv_X9_is mv_X9_isv lk_9_134 (ct_X9_is F hn P D T m 4 112 117 109 112) rfl rfl (by decide) rfl (Nat.lt_of_lt_of_le (Nat.le_of_ble_eq_true rfl) hn) ⟨by decide, by decide⟩ (Nat.le_of_ble_eq_true rfl) (fun x7 => ?_)
        refine J_if_eq 76 dX9_nameNow_70 (by decide) ?_ ?_
        · refine J_aload_n 0 0 113 dX9_nameNow_76 rfl rfl ?_
          refine J_iconst 5 dX9_nameNow_77 (by decide) ?_
          refine J_bipush 99 dX9_nameNow_78 (by decide) ?_
          refine J_bipush 114 dX9_nameNow_80 (by decide) ?_
          refine J_bipush 101 dX9_nameNow_82 (by decide) ?_
          refine J_bipush 119 dX9_nameNow_84 (by decide) ?_
          refine J_callVP 113 9 5 [.int 5, .int 99, .int 114, .int 101, .int 119] dX9_nameNow_86 mv_X9_is mv_X9_isv lk_9_134 (ct_X9_is F hn P D T m 5 99 114 101 119) rfl rfl (by decide) rfl (Nat.lt_of_lt_of_le (Nat.le_of_ble_eq_true rfl) hn) ⟨by decide, by decide⟩ (Nat.le_of_ble_eq_true rfl) (fun x9 => ?_)
          refine J_letJ 109 (fun y11 : Unit => [(0, .ref 113)]) (fun y11 => []) (fun y11 => m) (fun y11 => ?_) (fun j12 hEj12 => ?_)
          · refine J_aload_n 0 0 113 dX9_nameNow_109 rfl rfl ?_
            refine J_iconst 5 dX9_nameNow_110 (by decide) ?_
            refine J_bipush 115 dX9_nameNow_111 (by decide) ?_
            refine J_bipush 105 dX9_nameNow_113 (by decide) ?_
            refine J_bipush 110 dX9_nameNow_115 (by decide) ?_
            refine J_bipush 107 dX9_nameNow_117 (by decide) ?_
            refine J_callVP 113 9 5 [.int 5, .int 115, .int 105, .int 110, .int 107] dX9_nameNow_119 mv_X9_is mv_X9_isv lk_9_134 (ct_X9_is F hn P D T m 5 115 105 110 107) rfl rfl (by decide) rfl (Nat.lt_of_lt_of_le (Nat.le_of_ble_eq_true rfl) hn) ⟨by decide, by decide⟩ (Nat.le_of_ble_eq_true rfl) (fun x15 => ?_)
            refine J_letJ 142 (fun y17 : Unit => [(0, .ref 113)]) (fun y17 => []) (fun y17 => m) (fun y17 => ?_) (fun j18 hEj18 => ?_)
            · refine J_aload_n 0 0 113 dX9_nameNow_142 rfl rfl ?_
              refine J_iconst 5 dX9_nameNow_143 (by decide) ?_
              refine J_bipush 108 dX9_nameNow_144 (by decide) ?_
              refine J_bipush 105 dX9_nameNow_146 (by decide) ?_
              refine J_bipush 115 dX9_nameNow_148 (by decide) ?_
              refine J_bipush 116 dX9_nameNow_150 (by decide) ?_
              refine J_callVP 113 9 5 [.int 5, .int 108, .int 105, .int 115, .int 116] dX9_nameNow_152 mv_X9_is mv_X9_isv lk_9_134 (ct_X9_is F hn P D T m 5 108 105 115 116) rfl rfl (by decide) rfl (Nat.lt_of_lt_of_le (Nat.le_of_ble_eq_true rfl) hn) ⟨by decide, by decide⟩ (Nat.le_of_ble_eq_true rfl) (fun x21 => ?_)
              refine J_letJ 175 (fun y23 : Unit => [(0, .ref 113)]) (fun y23 => []) (fun y23 => m) (fun y23 => ?_) (fun j24 hEj24 => ?_)
              · refine J_aload_n 0 0 113 dX9_nameNow_175 rfl rfl ?_
                refine J_iconst 5 dX9_nameNow_176 (by decide) ?_
                refine J_bipush 116 dX9_nameNow_177 (by decide) ?_
                refine J_bipush 114 dX9_nameNow_179 (by decide) ?_
                refine J_bipush 105 dX9_nameNow_181 (by decide) ?_
                refine J_bipush 109 dX9_nameNow_183 (by decide) ?_
                refine J_callVP 113 9 5 [.int 5, .int 116, .int 114, .int 105, .int 109] dX9_nameNow_185 mv_X9_is mv_X9_isv lk_9_134 (ct_X9_is F hn P D T m 5 116 114 105 109) rfl rfl (by decide) rfl (Nat.lt_of_lt_of_le (Nat.le_of_ble_eq_true rfl) hn) ⟨by decide, by decide⟩ (Nat.le_of_ble_eq_true rfl) (fun x27 => ?_)
                refine J_letJ 208 (fun y29 : Unit => [(0, .ref 113)]) (fun y29 => []) (fun y29 => m) (fun y29 => ?_) (fun j30 hEj30 => ?_)
                · refine J_aload_n 0 0 113 dX9_nameNow_208 rfl rfl ?_
                  refine J_iconst 4 dX9_nameNow_209 (by decide) ?_
                  refine J_bipush 115 dX9_nameNow_210 (by decide) ?_
                  refine J_bipush 97 dX9_nameNow_212 (by decide) ?_
                  refine J_bipush 102 dX9_nameNow_214 (by decide) ?_
                  refine J_bipush 101 dX9_nameNow_216 (by decide) ?_
                  refine J_callVP 113 9 5 [.int 4, .int 115, .int 97, .int 102, .int 101] dX9_nameNow_218 mv_X9_is mv_X9_isv lk_9_134 (ct_X9_is F hn P D T m 4 115 97 102 101) rfl rfl (by decide) rfl (Nat.lt_of_lt_of_le (Nat.le_of_ble_eq_true rfl) hn) ⟨by decide, by decide⟩ (Nat.le_of_ble_eq_true rfl) (fun x33 => ?_)
                  refine J_if_eq 228 dX9_nameNow_221 (by decide) ?_ ?_
                  · refine J_aload_n 0 0 113 dX9_nameNow_228 rfl rfl ?_
                    refine J_iconst 4 dX9_nameNow_229 (by decide) ?_
                    refine J_bipush 115 dX9_nameNow_230 (by decide) ?_
                    refine J_bipush 104 dX9_nameNow_232 (by decide) ?_
                    refine J_bipush 117 dX9_nameNow_234 (by decide) ?_
                    refine J_bipush 116 dX9_nameNow_236 (by decide) ?_
                    refine J_callVP 113 9 5 [.int 4, .int 115, .int 104, .int 117, .int 116] dX9_nameNow_238 mv_X9_is mv_X9_isv lk_9_134 (ct_X9_is F hn P D T m 4 115 104 117 116) rfl rfl (by decide) rfl (Nat.lt_of_lt_of_le (Nat.le_of_ble_eq_true rfl) hn) ⟨by decide, by decide⟩ (Nat.le_of_ble_eq_true rfl) (fun x35 => ?_)
                    refine J_if_eq 249 dX9_nameNow_241 (by decide) ?_ ?_
                    · refine J_bipush (-4) dX9_nameNow_249 (by decide) ?_
                      exact J_iretP dX9_nameNow_251 rfl rfl
                    · refine J_bipush 14 dX9_nameNow_244 (by decide) ?_
                      refine J_goto 251 dX9_nameNow_246 (by decide) ?_
                      exact J_iretP dX9_nameNow_251 rfl rfl
                  · refine J_iconst 4 dX9_nameNow_224 (by decide) ?_
                    refine J_goto 251 dX9_nameNow_225 (by decide) ?_
                    exact J_iretP dX9_nameNow_251 rfl rfl
                · refine J_if_eq 208 dX9_nameNow_188 (by decide) ?_ ?_
                  · exact J_lv [0] rfl (hEj30 ())
                  · refine J_aload_n 0 0 113 dX9_nameNow_191 rfl rfl ?_
                    refine J_aload_n 0 0 113 dX9_nameNow_192 rfl rfl ?_
                    refine J_getI 113 9 24 dX9_nameNow_193 fl_9_121 rfl rfl (Nat.lt_of_lt_of_le (Nat.le_of_ble_eq_true rfl) hn) ?_
                    refine J_iconst 4 dX9_nameNow_196 (by decide) ?_
                    refine J_iadd dX9_nameNow_197 ?_
                    refine J_callVP 113 9 1 [.int ((m 113 24) + (4 : Int32))] dX9_nameNow_198 mv_X9_look mv_X9_lookv lk_9_130 (ct_X9_look F hn P D T m ((m 113 24) + (4 : Int32))) rfl rfl (by decide) rfl (Nat.lt_of_lt_of_le (Nat.le_of_ble_eq_true rfl) hn) ⟨by decide, by decide⟩ (Nat.le_of_ble_eq_true rfl) (fun x31 => ?_)
                    refine J_bipush 115 dX9_nameNow_201 (by decide) ?_
                    refine J_icmp_ne 208 dX9_nameNow_203 (by decide) ?_ ?_
                    · exact J_lv [0] rfl (hEj30 ())
                    · refine J_iconst 3 dX9_nameNow_206 (by decide) ?_
                      exact J_iretP dX9_nameNow_207 rfl rfl
              · refine J_if_eq 175 dX9_nameNow_155 (by decide) ?_ ?_
                · exact J_lv [0] rfl (hEj24 ())
                · refine J_aload_n 0 0 113 dX9_nameNow_158 rfl rfl ?_
                  refine J_aload_n 0 0 113 dX9_nameNow_159 rfl rfl ?_
                  refine J_getI 113 9 24 dX9_nameNow_160 fl_9_121 rfl rfl (Nat.lt_of_lt_of_le (Nat.le_of_ble_eq_true rfl) hn) ?_
                  refine J_iconst 4 dX9_nameNow_163 (by decide) ?_
                  refine J_iadd dX9_nameNow_164 ?_
                  refine J_callVP 113 9 1 [.int ((m 113 24) + (4 : Int32))] dX9_nameNow_165 mv_X9_look mv_X9_lookv lk_9_130 (ct_X9_look F hn P D T m ((m 113 24) + (4 : Int32))) rfl rfl (by decide) rfl (Nat.lt_of_lt_of_le (Nat.le_of_ble_eq_true rfl) hn) ⟨by decide, by decide⟩ (Nat.le_of_ble_eq_true rfl) (fun x25 => ?_)
                  refine J_bipush 115 dX9_nameNow_168 (by decide) ?_
                  refine J_icmp_ne 175 dX9_nameNow_170 (by decide) ?_ ?_
                  · exact J_lv [0] rfl (hEj24 ())
                  · refine J_iconst 2 dX9_nameNow_173 (by decide) ?_
                    exact J_iretP dX9_nameNow_174 rfl rfl
            · refine J_if_eq 142 dX9_nameNow_122 (by decide) ?_ ?_
              · exact J_lv [0] rfl (hEj18 ())
              · refine J_aload_n 0 0 113 dX9_nameNow_125 rfl rfl ?_
                refine J_aload_n 0 0 113 dX9_nameNow_126 rfl rfl ?_
                refine J_getI 113 9 24 dX9_nameNow_127 fl_9_121 rfl rfl (Nat.lt_of_lt_of_le (Nat.le_of_ble_eq_true rfl) hn) ?_
                refine J_iconst 4 dX9_nameNow_130 (by decide) ?_
                refine J_iadd dX9_nameNow_131 ?_
                refine J_callVP 113 9 1 [.int ((m 113 24) + (4 : Int32))] dX9_nameNow_132 mv_X9_look mv_X9_lookv lk_9_130 (ct_X9_look F hn P D T m ((m 113 24) + (4 : Int32))) rfl rfl (by decide) rfl (Nat.lt_of_lt_of_le (Nat.le_of_ble_eq_true rfl) hn) ⟨by decide, by decide⟩ (Nat.le_of_ble_eq_true rfl) (fun x19 => ?_)
                refine J_bipush 115 dX9_nameNow_135 (by decide) ?_
                refine J_icmp_ne 142 dX9_nameNow_137 (by decide) ?_ ?_
                · exact J_lv [0] rfl (hEj18 ())
                · refine J_iconst 1 dX9_nameNow_140 (by decide) ?_
                  exact J_iretP dX9_nameNow_141 rfl rfl
          · refine J_if_eq 109 dX9_nameNow_89 (by decide) ?_ ?_
            · exact J_lv [0] rfl (hEj12 ())
            · refine J_aload_n 0 0 113 dX9_nameNow_92 rfl rfl ?_
              refine J_aload_n 0 0 113 dX9_nameNow_93 rfl rfl ?_
              refine J_getI 113 9 24 dX9_nameNow_94 fl_9_121 rfl rfl (Nat.lt_of_lt_of_le (Nat.le_of_ble_eq_true rfl) hn) ?_
              refine J_iconst 4 dX9_nameNow_97 (by decide) ?_
              refine J_iadd dX9_nameNow_98 ?_
              refine J_callVP 113 9 1 [.int ((m 113 24) + (4 : Int32))] dX9_nameNow_99 mv_X9_look mv_X9_lookv lk_9_130 (ct_X9_look F hn P D T m ((m 113 24) + (4 : Int32))) rfl rfl (by decide) rfl (Nat.lt_of_lt_of_le (Nat.le_of_ble_eq_true rfl) hn) ⟨by decide, by decide⟩ (Nat.le_of_ble_eq_true rfl) (fun x13 => ?_)
              refine J_bipush 115 dX9_nameNow_102 (by decide) ?_
              refine J_icmp_ne 109 dX9_nameNow_104 (by decide) ?_ ?_
              · exact J_lv [0] rfl (hEj12 ())
              · refine J_iconst 0 dX9_nameNow_107 (by decide) ?_
                exact J_iretP dX9_nameNow_108 rfl rfl
        · refine J_bipush 13 dX9_nameNow_73 (by decide) ?_
          exact J_iretP dX9_nameNow_75 rfl rfl
      · refine J_bipush 12 dX9_nameNow_54 (by decide) ?_
        exact J_iretP dX9_nameNow_56 rfl rfl
    · refine J_bipush 11 dX9_nameNow_35 (by decide) ?_
      exact J_iretP dX9_nameNow_37 rfl rfl
  · refine J_bipush 10 dX9_nameNow_16 (by decide) ?_
    exact J_iretP dX9_nameNow_18 rfl rfl

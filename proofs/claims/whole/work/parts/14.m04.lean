theorem fl_4_108 : FL RX4 108 4 0 := ⟨by decide, by decide, tb 195 (by decide +kernel) rfl⟩
theorem fl_4_114 : FL RX4 114 4 1 := ⟨by decide, by decide, tb 197 (by decide +kernel) rfl⟩
theorem fl_4_21 : FL RX4 21 4 5 := ⟨by decide, by decide, tb 202 (by decide +kernel) rfl⟩
theorem fl_4_38 : FL RX4 38 4 9 := ⟨by decide, by decide, tb 206 (by decide +kernel) rfl⟩
theorem fl_4_68 : FL RX4 68 1 1 := ⟨by decide, by decide, tb 258 (by decide +kernel) rfl⟩
theorem fl_4_73 : FL RX4 73 7 6 := ⟨by decide, by decide, tb 154 (by decide +kernel) rfl⟩
theorem fl_4_76 : FL RX4 76 1 2 := ⟨by decide, by decide, tb 263 (by decide +kernel) rfl⟩
theorem fl_4_79 : FL RX4 79 7 7 := ⟨by decide, by decide, tb 157 (by decide +kernel) rfl⟩
theorem fl_4_88 : FL RX4 88 1 19 := ⟨by decide, by decide, tb 329 (by decide +kernel) rfl⟩
theorem fl_4_91 : FL RX4 91 7 9 := ⟨by decide, by decide, tb 162 (by decide +kernel) rfl⟩
theorem fl_4_95 : FL RX4 95 7 0 := ⟨by decide, by decide, tb 141 (by decide +kernel) rfl⟩
theorem fl_7_15 : FL RX7 15 7 5 := ⟨by decide, by decide, tb 151 (by decide +kernel) rfl⟩
theorem fl_7_18 : FL RX7 18 7 6 := ⟨by decide, by decide, tb 153 (by decide +kernel) rfl⟩
theorem fl_7_186 : FL RX7 186 1 19 := ⟨by decide, by decide, tb 331 (by decide +kernel) rfl⟩
theorem fl_7_21 : FL RX7 21 7 7 := ⟨by decide, by decide, tb 156 (by decide +kernel) rfl⟩
theorem fl_7_24 : FL RX7 24 7 8 := ⟨by decide, by decide, tb 159 (by decide +kernel) rfl⟩
theorem fl_7_30 : FL RX7 30 7 9 := ⟨by decide, by decide, tb 161 (by decide +kernel) rfl⟩
theorem fl_7_41 : FL RX7 41 7 0 := ⟨by decide, by decide, tb 140 (by decide +kernel) rfl⟩
theorem fl_7_68 : FL RX7 68 0 0 := ⟨by decide, by decide, tb 83 (by decide +kernel) rfl⟩
theorem fl_7_83 : FL RX7 83 7 1 := ⟨by decide, by decide, tb 143 (by decide +kernel) rfl⟩
theorem fl_7_86 : FL RX7 86 7 2 := ⟨by decide, by decide, tb 145 (by decide +kernel) rfl⟩
theorem fl_7_9 : FL RX7 9 7 4 := ⟨by decide, by decide, tb 149 (by decide +kernel) rfl⟩
theorem lk_4_104 : Cond.methodLinkNest RX4 104 yX8_minutesFor "WhichHold" ∈ NWl := tbN 827 (by decide +kernel) rfl
theorem lk_4_111 : Cond.methodLinkNest RX4 111 yX8_isLater "WhichHold" ∈ NWl := tbN 834 (by decide +kernel) rfl
theorem lk_4_117 : Cond.methodLink RX4 117 arraycopyName ∈ TBg := tb 837 (by decide +kernel) rfl
theorem lk_4_82 : Cond.methodLink RX4 82 yJ7_fill_53178 ∈ TBg := tb 825 (by decide +kernel) rfl
theorem lk_4_98 : Cond.methodLink RX4 98 yX0_append ∈ TBg := tb 826 (by decide +kernel) rfl
theorem lk_7_182 : Cond.methodLink RX7 182 yX0_tally ∈ TBg := tb 691 (by decide +kernel) rfl
theorem lk_7_189 : Cond.methodLink RX7 189 yX0_isOnDoor ∈ TBg := tb 695 (by decide +kernel) rfl
theorem lk_7_193 : Cond.methodLink RX7 193 yX0_isOnHole ∈ TBg := tb 696 (by decide +kernel) rfl
theorem lk_7_50 : Cond.methodLink RX7 50 arraycopyName ∈ TBg := tb 400 (by decide +kernel) rfl
theorem mv_X0_append : MV yX0_append cX0_append 5 (some .int) 4 := ⟨tb 772 (by decide +kernel) rfl, tb 4 (by decide +kernel) rfl, by decide +kernel⟩
theorem mv_X0_appendv : Cond.instanceMethod yX0_append ∈ TBg ∧ Cond.selects yX0_append.cls yX0_append yX0_append ∈ TBg := ⟨tb 770 (by decide +kernel) rfl, tb 771 (by decide +kernel) rfl⟩
theorem mv_X0_isOnDoor : MV yX0_isOnDoor cX0_isOnDoor 3 (some .boolean) 1 := ⟨tb 633 (by decide +kernel) rfl, tb 4 (by decide +kernel) rfl, by decide +kernel⟩
theorem mv_X0_isOnDoorv : Cond.instanceMethod yX0_isOnDoor ∈ TBg ∧ Cond.selects yX0_isOnDoor.cls yX0_isOnDoor yX0_isOnDoor ∈ TBg := ⟨tb 631 (by decide +kernel) rfl, tb 632 (by decide +kernel) rfl⟩
theorem mv_X0_isOnHole : MV yX0_isOnHole cX0_isOnHole 3 (some .boolean) 1 := ⟨tb 699 (by decide +kernel) rfl, tb 4 (by decide +kernel) rfl, by decide +kernel⟩
theorem mv_X0_isOnHolev : Cond.instanceMethod yX0_isOnHole ∈ TBg ∧ Cond.selects yX0_isOnHole.cls yX0_isOnHole yX0_isOnHole ∈ TBg := ⟨tb 697 (by decide +kernel) rfl, tb 698 (by decide +kernel) rfl⟩
theorem mv_X8_isLater : MV yX8_isLater cX8_isLater 2 (some .boolean) 2 := ⟨tb 836 (by decide +kernel) rfl, tb 1 (by decide +kernel) rfl, by decide +kernel⟩
theorem mv_X8_isLaters : Cond.static yX8_isLater ∈ TBg := tb 835 (by decide +kernel) rfl
theorem mv_X8_minutesFor : MV yX8_minutesFor cX8_minutesFor 3 (some .int) 3 := ⟨tb 702 (by decide +kernel) rfl, tb 1 (by decide +kernel) rfl, by decide +kernel⟩
theorem mv_X8_minutesFors : Cond.static yX8_minutesFor ∈ TBg := tb 701 (by decide +kernel) rfl
theorem dX4_giveRow_0 : decode cX4_giveRow 0 = .ok (.aload_n 0, 1) := by decide +kernel
theorem dX4_giveRow_1 : decode cX4_giveRow 1 = .ok (.getfield 21, 3) := by decide +kernel
theorem dX4_giveRow_4 : decode cX4_giveRow 4 = .ok (.iconst 0, 1) := by decide +kernel
theorem dX4_giveRow_5 : decode cX4_giveRow 5 = .ok (.invokestatic 82, 3) := by decide +kernel
theorem dX4_giveRow_8 : decode cX4_giveRow 8 = .ok (.iconst 0, 1) := by decide +kernel
theorem dX4_giveRow_9 : decode cX4_giveRow 9 = .ok (.istore 4, 2) := by decide +kernel
theorem dX4_giveRow_11 : decode cX4_giveRow 11 = .ok (.iload 4, 2) := by decide +kernel
theorem dX4_giveRow_13 : decode cX4_giveRow 13 = .ok (.iload_n 3, 1) := by decide +kernel
theorem dX4_giveRow_14 : decode cX4_giveRow 14 = .ok (.if_icmp .ge 149, 3) := by decide +kernel
theorem dX4_giveRow_17 : decode cX4_giveRow 17 = .ok (.aload_n 0, 1) := by decide +kernel
theorem dX4_giveRow_18 : decode cX4_giveRow 18 = .ok (.getfield 15, 3) := by decide +kernel
theorem dX4_giveRow_21 : decode cX4_giveRow 21 = .ok (.iload 4, 2) := by decide +kernel
theorem dX4_giveRow_23 : decode cX4_giveRow 23 = .ok (.iaload, 1) := by decide +kernel
theorem dX4_giveRow_24 : decode cX4_giveRow 24 = .ok (.bipush 20, 2) := by decide +kernel
theorem dX4_giveRow_26 : decode cX4_giveRow 26 = .ok (.if_icmp .ge 7, 3) := by decide +kernel
theorem dX4_giveRow_29 : decode cX4_giveRow 29 = .ok (.iconst 0, 1) := by decide +kernel
theorem dX4_giveRow_30 : decode cX4_giveRow 30 = .ok (.goto 4, 3) := by decide +kernel
theorem dX4_giveRow_33 : decode cX4_giveRow 33 = .ok (.iconst 2, 1) := by decide +kernel
theorem dX4_giveRow_34 : decode cX4_giveRow 34 = .ok (.istore 5, 2) := by decide +kernel
theorem dX4_giveRow_36 : decode cX4_giveRow 36 = .ok (.aload_n 0, 1) := by decide +kernel
theorem dX4_giveRow_37 : decode cX4_giveRow 37 = .ok (.getfield 15, 3) := by decide +kernel
theorem dX4_giveRow_40 : decode cX4_giveRow 40 = .ok (.iload 4, 2) := by decide +kernel
theorem dX4_giveRow_42 : decode cX4_giveRow 42 = .ok (.iaload, 1) := by decide +kernel
theorem dX4_giveRow_43 : decode cX4_giveRow 43 = .ok (.bipush 20, 2) := by decide +kernel
theorem dX4_giveRow_45 : decode cX4_giveRow 45 = .ok (.if_icmp .ge 13, 3) := by decide +kernel
theorem dX4_giveRow_48 : decode cX4_giveRow 48 = .ok (.aload_n 0, 1) := by decide +kernel
theorem dX4_giveRow_49 : decode cX4_giveRow 49 = .ok (.getfield 15, 3) := by decide +kernel
theorem dX4_giveRow_52 : decode cX4_giveRow 52 = .ok (.iload 4, 2) := by decide +kernel
theorem dX4_giveRow_54 : decode cX4_giveRow 54 = .ok (.iaload, 1) := by decide +kernel
theorem dX4_giveRow_55 : decode cX4_giveRow 55 = .ok (.goto 13, 3) := by decide +kernel
theorem dX4_giveRow_58 : decode cX4_giveRow 58 = .ok (.aload_n 0, 1) := by decide +kernel
theorem dX4_giveRow_59 : decode cX4_giveRow 59 = .ok (.getfield 15, 3) := by decide +kernel
theorem dX4_giveRow_62 : decode cX4_giveRow 62 = .ok (.iload 4, 2) := by decide +kernel
theorem dX4_giveRow_64 : decode cX4_giveRow 64 = .ok (.iaload, 1) := by decide +kernel
theorem dX4_giveRow_65 : decode cX4_giveRow 65 = .ok (.bipush 20, 2) := by decide +kernel
theorem dX4_giveRow_67 : decode cX4_giveRow 67 = .ok (.isub, 1) := by decide +kernel
theorem dX4_giveRow_68 : decode cX4_giveRow 68 = .ok (.istore 6, 2) := by decide +kernel
theorem dX4_giveRow_70 : decode cX4_giveRow 70 = .ok (.iconst 0, 1) := by decide +kernel
theorem dX4_giveRow_71 : decode cX4_giveRow 71 = .ok (.istore 7, 2) := by decide +kernel
theorem dX4_giveRow_73 : decode cX4_giveRow 73 = .ok (.iconst 1, 1) := by decide +kernel
theorem dX4_giveRow_74 : decode cX4_giveRow 74 = .ok (.istore 8, 2) := by decide +kernel
theorem dX4_giveRow_76 : decode cX4_giveRow 76 = .ok (.iload 8, 2) := by decide +kernel
theorem dX4_giveRow_78 : decode cX4_giveRow 78 = .ok (.aload_n 1, 1) := by decide +kernel
theorem dX4_giveRow_79 : decode cX4_giveRow 79 = .ok (.getfield 88, 3) := by decide +kernel
theorem dX4_giveRow_82 : decode cX4_giveRow 82 = .ok (.iconst 0, 1) := by decide +kernel
theorem dX4_giveRow_83 : decode cX4_giveRow 83 = .ok (.iaload, 1) := by decide +kernel
theorem dX4_giveRow_84 : decode cX4_giveRow 84 = .ok (.if_icmp .ge 30, 3) := by decide +kernel
theorem dX4_giveRow_87 : decode cX4_giveRow 87 = .ok (.aload_n 0, 1) := by decide +kernel
theorem dX4_giveRow_88 : decode cX4_giveRow 88 = .ok (.getfield 21, 3) := by decide +kernel
theorem dX4_giveRow_91 : decode cX4_giveRow 91 = .ok (.iload 8, 2) := by decide +kernel
theorem dX4_giveRow_93 : decode cX4_giveRow 93 = .ok (.iaload, 1) := by decide +kernel
theorem dX4_giveRow_94 : decode cX4_giveRow 94 = .ok (.aload_n 0, 1) := by decide +kernel
theorem dX4_giveRow_95 : decode cX4_giveRow 95 = .ok (.getfield 21, 3) := by decide +kernel
theorem dX4_giveRow_98 : decode cX4_giveRow 98 = .ok (.iload 7, 2) := by decide +kernel
theorem dX4_giveRow_100 : decode cX4_giveRow 100 = .ok (.iaload, 1) := by decide +kernel
theorem dX4_giveRow_101 : decode cX4_giveRow 101 = .ok (.if_icmp .ge 7, 3) := by decide +kernel
theorem dX4_giveRow_104 : decode cX4_giveRow 104 = .ok (.iload 8, 2) := by decide +kernel
theorem dX4_giveRow_106 : decode cX4_giveRow 106 = .ok (.istore 7, 2) := by decide +kernel
theorem dX4_giveRow_108 : decode cX4_giveRow 108 = .ok (.iinc 8 1, 3) := by decide +kernel
theorem dX4_giveRow_111 : decode cX4_giveRow 111 = .ok (.goto (-35), 3) := by decide +kernel
theorem dX4_giveRow_114 : decode cX4_giveRow 114 = .ok (.aload_n 2, 1) := by decide +kernel
theorem dX4_giveRow_115 : decode cX4_giveRow 115 = .ok (.getfield 91, 3) := by decide +kernel
theorem dX4_giveRow_118 : decode cX4_giveRow 118 = .ok (.aload_n 2, 1) := by decide +kernel
theorem dX4_giveRow_119 : decode cX4_giveRow 119 = .ok (.getfield 95, 3) := by decide +kernel
theorem dX4_giveRow_122 : decode cX4_giveRow 122 = .ok (.aload_n 0, 1) := by decide +kernel
theorem dX4_giveRow_123 : decode cX4_giveRow 123 = .ok (.getfield 21, 3) := by decide +kernel
theorem dX4_giveRow_126 : decode cX4_giveRow 126 = .ok (.iload 7, 2) := by decide +kernel
theorem dX4_giveRow_128 : decode cX4_giveRow 128 = .ok (.iaload, 1) := by decide +kernel
theorem dX4_giveRow_129 : decode cX4_giveRow 129 = .ok (.iadd, 1) := by decide +kernel
theorem dX4_giveRow_130 : decode cX4_giveRow 130 = .ok (.iload 5, 2) := by decide +kernel
theorem dX4_giveRow_132 : decode cX4_giveRow 132 = .ok (.iload 6, 2) := by decide +kernel
theorem dX4_giveRow_134 : decode cX4_giveRow 134 = .ok (.iconst 0, 1) := by decide +kernel
theorem dX4_giveRow_135 : decode cX4_giveRow 135 = .ok (.invokevirtual 98, 3) := by decide +kernel
theorem dX4_giveRow_138 : decode cX4_giveRow 138 = .ok (.pop, 1) := by decide +kernel
theorem dX4_giveRow_139 : decode cX4_giveRow 139 = .ok (.aload_n 0, 1) := by decide +kernel
theorem dX4_giveRow_140 : decode cX4_giveRow 140 = .ok (.getfield 21, 3) := by decide +kernel
theorem dX4_giveRow_143 : decode cX4_giveRow 143 = .ok (.iload 7, 2) := by decide +kernel
theorem dX4_giveRow_145 : decode cX4_giveRow 145 = .ok (.dup2, 1) := by decide +kernel
theorem dX4_giveRow_146 : decode cX4_giveRow 146 = .ok (.iaload, 1) := by decide +kernel
theorem dX4_giveRow_147 : decode cX4_giveRow 147 = .ok (.aload_n 1, 1) := by decide +kernel
theorem dX4_giveRow_148 : decode cX4_giveRow 148 = .ok (.iload 5, 2) := by decide +kernel
theorem dX4_giveRow_150 : decode cX4_giveRow 150 = .ok (.iload 6, 2) := by decide +kernel
theorem dX4_giveRow_152 : decode cX4_giveRow 152 = .ok (.invokestatic 104, 3) := by decide +kernel
theorem dX4_giveRow_155 : decode cX4_giveRow 155 = .ok (.iadd, 1) := by decide +kernel
theorem dX4_giveRow_156 : decode cX4_giveRow 156 = .ok (.iastore, 1) := by decide +kernel
theorem dX4_giveRow_157 : decode cX4_giveRow 157 = .ok (.iinc 4 1, 3) := by decide +kernel
theorem dX4_giveRow_160 : decode cX4_giveRow 160 = .ok (.goto (-149), 3) := by decide +kernel
theorem dX4_giveRow_163 : decode cX4_giveRow 163 = .ok (.return_, 1) := by decide +kernel
theorem dX8_isLater_0 : decode cX8_isLater 0 = .ok (.iload_n 1, 1) := by decide +kernel
theorem dX8_isLater_1 : decode cX8_isLater 1 = .ok (.bipush (-4), 2) := by decide +kernel
theorem dX8_isLater_3 : decode cX8_isLater 3 = .ok (.if_icmp .eq 18, 3) := by decide +kernel
theorem dX8_isLater_6 : decode cX8_isLater 6 = .ok (.iload_n 0, 1) := by decide +kernel
theorem dX8_isLater_7 : decode cX8_isLater 7 = .ok (.bipush (-4), 2) := by decide +kernel
theorem dX8_isLater_9 : decode cX8_isLater 9 = .ok (.if_icmp .eq 8, 3) := by decide +kernel
theorem dX8_isLater_12 : decode cX8_isLater 12 = .ok (.iload_n 0, 1) := by decide +kernel
theorem dX8_isLater_13 : decode cX8_isLater 13 = .ok (.iload_n 1, 1) := by decide +kernel
theorem dX8_isLater_14 : decode cX8_isLater 14 = .ok (.if_icmp .le 7, 3) := by decide +kernel
theorem dX8_isLater_17 : decode cX8_isLater 17 = .ok (.iconst 1, 1) := by decide +kernel
theorem dX8_isLater_18 : decode cX8_isLater 18 = .ok (.goto 4, 3) := by decide +kernel
theorem dX8_isLater_21 : decode cX8_isLater 21 = .ok (.iconst 0, 1) := by decide +kernel
theorem dX8_isLater_22 : decode cX8_isLater 22 = .ok (.ireturn, 1) := by decide +kernel
theorem dX4_keepIfBetter_0 : decode cX4_keepIfBetter 0 = .ok (.iload_n 1, 1) := by decide +kernel
theorem dX4_keepIfBetter_1 : decode cX4_keepIfBetter 1 = .ok (.aload_n 0, 1) := by decide +kernel
theorem dX4_keepIfBetter_2 : decode cX4_keepIfBetter 2 = .ok (.getfield 108, 3) := by decide +kernel
theorem dX4_keepIfBetter_5 : decode cX4_keepIfBetter 5 = .ok (.invokestatic 111, 3) := by decide +kernel
theorem dX4_keepIfBetter_8 : decode cX4_keepIfBetter 8 = .ok (.ifCond .ne 19, 3) := by decide +kernel
theorem dX4_keepIfBetter_11 : decode cX4_keepIfBetter 11 = .ok (.iload_n 1, 1) := by decide +kernel
theorem dX4_keepIfBetter_12 : decode cX4_keepIfBetter 12 = .ok (.aload_n 0, 1) := by decide +kernel
theorem dX4_keepIfBetter_13 : decode cX4_keepIfBetter 13 = .ok (.getfield 108, 3) := by decide +kernel
theorem dX4_keepIfBetter_16 : decode cX4_keepIfBetter 16 = .ok (.if_icmp .ne 15, 3) := by decide +kernel
theorem dX4_keepIfBetter_19 : decode cX4_keepIfBetter 19 = .ok (.iload_n 2, 1) := by decide +kernel
theorem dX4_keepIfBetter_20 : decode cX4_keepIfBetter 20 = .ok (.aload_n 0, 1) := by decide +kernel
theorem dX4_keepIfBetter_21 : decode cX4_keepIfBetter 21 = .ok (.getfield 114, 3) := by decide +kernel
theorem dX4_keepIfBetter_24 : decode cX4_keepIfBetter 24 = .ok (.if_icmp .ge 7, 3) := by decide +kernel
theorem dX4_keepIfBetter_27 : decode cX4_keepIfBetter 27 = .ok (.iconst 1, 1) := by decide +kernel
theorem dX4_keepIfBetter_28 : decode cX4_keepIfBetter 28 = .ok (.goto 4, 3) := by decide +kernel
theorem dX4_keepIfBetter_31 : decode cX4_keepIfBetter 31 = .ok (.iconst 0, 1) := by decide +kernel
theorem dX4_keepIfBetter_32 : decode cX4_keepIfBetter 32 = .ok (.istore_n 3, 1) := by decide +kernel
theorem dX4_keepIfBetter_33 : decode cX4_keepIfBetter 33 = .ok (.aload_n 0, 1) := by decide +kernel
theorem dX4_keepIfBetter_34 : decode cX4_keepIfBetter 34 = .ok (.getfield 38, 3) := by decide +kernel
theorem dX4_keepIfBetter_37 : decode cX4_keepIfBetter 37 = .ok (.ifCond .eq 7, 3) := by decide +kernel
theorem dX4_keepIfBetter_40 : decode cX4_keepIfBetter 40 = .ok (.iload_n 3, 1) := by decide +kernel
theorem dX4_keepIfBetter_41 : decode cX4_keepIfBetter 41 = .ok (.ifCond .eq 32, 3) := by decide +kernel
theorem dX4_keepIfBetter_44 : decode cX4_keepIfBetter 44 = .ok (.aload_n 0, 1) := by decide +kernel
theorem dX4_keepIfBetter_45 : decode cX4_keepIfBetter 45 = .ok (.iconst 1, 1) := by decide +kernel
theorem dX4_keepIfBetter_46 : decode cX4_keepIfBetter 46 = .ok (.putfield 38, 3) := by decide +kernel
theorem dX4_keepIfBetter_49 : decode cX4_keepIfBetter 49 = .ok (.aload_n 0, 1) := by decide +kernel
theorem dX4_keepIfBetter_50 : decode cX4_keepIfBetter 50 = .ok (.iload_n 1, 1) := by decide +kernel
theorem dX4_keepIfBetter_51 : decode cX4_keepIfBetter 51 = .ok (.putfield 108, 3) := by decide +kernel
theorem dX4_keepIfBetter_54 : decode cX4_keepIfBetter 54 = .ok (.aload_n 0, 1) := by decide +kernel
theorem dX4_keepIfBetter_55 : decode cX4_keepIfBetter 55 = .ok (.iload_n 2, 1) := by decide +kernel
theorem dX4_keepIfBetter_56 : decode cX4_keepIfBetter 56 = .ok (.putfield 114, 3) := by decide +kernel
theorem dX4_keepIfBetter_59 : decode cX4_keepIfBetter 59 = .ok (.aload_n 0, 1) := by decide +kernel
theorem dX4_keepIfBetter_60 : decode cX4_keepIfBetter 60 = .ok (.getfield 15, 3) := by decide +kernel
theorem dX4_keepIfBetter_63 : decode cX4_keepIfBetter 63 = .ok (.iconst 0, 1) := by decide +kernel
theorem dX4_keepIfBetter_64 : decode cX4_keepIfBetter 64 = .ok (.aload_n 0, 1) := by decide +kernel
theorem dX4_keepIfBetter_65 : decode cX4_keepIfBetter 65 = .ok (.getfield 18, 3) := by decide +kernel
theorem dX4_keepIfBetter_68 : decode cX4_keepIfBetter 68 = .ok (.iconst 0, 1) := by decide +kernel
theorem dX4_keepIfBetter_69 : decode cX4_keepIfBetter 69 = .ok (.iconst 3, 1) := by decide +kernel
theorem dX4_keepIfBetter_70 : decode cX4_keepIfBetter 70 = .ok (.invokestatic 117, 3) := by decide +kernel
theorem dX4_keepIfBetter_73 : decode cX4_keepIfBetter 73 = .ok (.return_, 1) := by decide +kernel
theorem dX4_listChoices_0 : decode cX4_listChoices 0 = .ok (.aload_n 0, 1) := by decide +kernel
theorem dX4_listChoices_1 : decode cX4_listChoices 1 = .ok (.iconst 0, 1) := by decide +kernel
theorem dX4_listChoices_2 : decode cX4_listChoices 2 = .ok (.putfield 32, 3) := by decide +kernel
theorem dX4_listChoices_5 : decode cX4_listChoices 5 = .ok (.iconst 0, 1) := by decide +kernel
theorem dX4_listChoices_6 : decode cX4_listChoices 6 = .ok (.istore_n 3, 1) := by decide +kernel
theorem dX4_listChoices_7 : decode cX4_listChoices 7 = .ok (.iload_n 3, 1) := by decide +kernel
theorem dX4_listChoices_8 : decode cX4_listChoices 8 = .ok (.aload_n 1, 1) := by decide +kernel
theorem dX4_listChoices_9 : decode cX4_listChoices 9 = .ok (.getfield 68, 3) := by decide +kernel
theorem dX4_listChoices_12 : decode cX4_listChoices 12 = .ok (.if_icmp .ge 36, 3) := by decide +kernel
theorem dX4_listChoices_15 : decode cX4_listChoices 15 = .ok (.aload_n 2, 1) := by decide +kernel
theorem dX4_listChoices_16 : decode cX4_listChoices 16 = .ok (.getfield 73, 3) := by decide +kernel
theorem dX4_listChoices_19 : decode cX4_listChoices 19 = .ok (.iload_n 3, 1) := by decide +kernel
theorem dX4_listChoices_20 : decode cX4_listChoices 20 = .ok (.iaload, 1) := by decide +kernel
theorem dX4_listChoices_21 : decode cX4_listChoices 21 = .ok (.iconst 1, 1) := by decide +kernel
theorem dX4_listChoices_22 : decode cX4_listChoices 22 = .ok (.if_icmp .ne 20, 3) := by decide +kernel
theorem dX4_listChoices_25 : decode cX4_listChoices 25 = .ok (.aload_n 0, 1) := by decide +kernel
theorem dX4_listChoices_26 : decode cX4_listChoices 26 = .ok (.getfield 9, 3) := by decide +kernel
theorem dX4_listChoices_29 : decode cX4_listChoices 29 = .ok (.aload_n 0, 1) := by decide +kernel
theorem dX4_listChoices_30 : decode cX4_listChoices 30 = .ok (.dup, 1) := by decide +kernel
theorem dX4_listChoices_31 : decode cX4_listChoices 31 = .ok (.getfield 32, 3) := by decide +kernel
theorem dX4_listChoices_34 : decode cX4_listChoices 34 = .ok (.dup_x1, 1) := by decide +kernel
theorem dX4_listChoices_35 : decode cX4_listChoices 35 = .ok (.iconst 1, 1) := by decide +kernel
theorem dX4_listChoices_36 : decode cX4_listChoices 36 = .ok (.iadd, 1) := by decide +kernel
theorem dX4_listChoices_37 : decode cX4_listChoices 37 = .ok (.putfield 32, 3) := by decide +kernel
theorem dX4_listChoices_40 : decode cX4_listChoices 40 = .ok (.iload_n 3, 1) := by decide +kernel
theorem dX4_listChoices_41 : decode cX4_listChoices 41 = .ok (.iastore, 1) := by decide +kernel
theorem dX4_listChoices_42 : decode cX4_listChoices 42 = .ok (.iinc 3 1, 3) := by decide +kernel
theorem dX4_listChoices_45 : decode cX4_listChoices 45 = .ok (.goto (-38), 3) := by decide +kernel
theorem dX4_listChoices_48 : decode cX4_listChoices 48 = .ok (.iconst 0, 1) := by decide +kernel
theorem dX4_listChoices_49 : decode cX4_listChoices 49 = .ok (.istore_n 3, 1) := by decide +kernel
theorem dX4_listChoices_50 : decode cX4_listChoices 50 = .ok (.iload_n 3, 1) := by decide +kernel
theorem dX4_listChoices_51 : decode cX4_listChoices 51 = .ok (.aload_n 1, 1) := by decide +kernel
theorem dX4_listChoices_52 : decode cX4_listChoices 52 = .ok (.getfield 76, 3) := by decide +kernel
theorem dX4_listChoices_55 : decode cX4_listChoices 55 = .ok (.if_icmp .ge 38, 3) := by decide +kernel
theorem dX4_listChoices_58 : decode cX4_listChoices 58 = .ok (.aload_n 2, 1) := by decide +kernel
theorem dX4_listChoices_59 : decode cX4_listChoices 59 = .ok (.getfield 79, 3) := by decide +kernel
theorem dX4_listChoices_62 : decode cX4_listChoices 62 = .ok (.iload_n 3, 1) := by decide +kernel
theorem dX4_listChoices_63 : decode cX4_listChoices 63 = .ok (.iaload, 1) := by decide +kernel
theorem dX4_listChoices_64 : decode cX4_listChoices 64 = .ok (.ifCond .ne 23, 3) := by decide +kernel
theorem dX4_listChoices_67 : decode cX4_listChoices 67 = .ok (.aload_n 0, 1) := by decide +kernel
theorem dX4_listChoices_68 : decode cX4_listChoices 68 = .ok (.getfield 9, 3) := by decide +kernel
theorem dX4_listChoices_71 : decode cX4_listChoices 71 = .ok (.aload_n 0, 1) := by decide +kernel
theorem dX4_listChoices_72 : decode cX4_listChoices 72 = .ok (.dup, 1) := by decide +kernel
theorem dX4_listChoices_73 : decode cX4_listChoices 73 = .ok (.getfield 32, 3) := by decide +kernel
theorem dX4_listChoices_76 : decode cX4_listChoices 76 = .ok (.dup_x1, 1) := by decide +kernel
theorem dX4_listChoices_77 : decode cX4_listChoices 77 = .ok (.iconst 1, 1) := by decide +kernel
theorem dX4_listChoices_78 : decode cX4_listChoices 78 = .ok (.iadd, 1) := by decide +kernel
theorem dX4_listChoices_79 : decode cX4_listChoices 79 = .ok (.putfield 32, 3) := by decide +kernel
theorem dX4_listChoices_82 : decode cX4_listChoices 82 = .ok (.bipush 20, 2) := by decide +kernel
theorem dX4_listChoices_84 : decode cX4_listChoices 84 = .ok (.iload_n 3, 1) := by decide +kernel
theorem dX4_listChoices_85 : decode cX4_listChoices 85 = .ok (.iadd, 1) := by decide +kernel
theorem dX4_listChoices_86 : decode cX4_listChoices 86 = .ok (.iastore, 1) := by decide +kernel
theorem dX4_listChoices_87 : decode cX4_listChoices 87 = .ok (.iinc 3 1, 3) := by decide +kernel
theorem dX4_listChoices_90 : decode cX4_listChoices 90 = .ok (.goto (-40), 3) := by decide +kernel
theorem dX4_listChoices_93 : decode cX4_listChoices 93 = .ok (.return_, 1) := by decide +kernel
theorem dX7_copyWithoutOrders_0 : decode cX7_copyWithoutOrders 0 = .ok (.aload_n 0, 1) := by decide +kernel
theorem dX7_copyWithoutOrders_1 : decode cX7_copyWithoutOrders 1 = .ok (.aload_n 1, 1) := by decide +kernel
theorem dX7_copyWithoutOrders_2 : decode cX7_copyWithoutOrders 2 = .ok (.getfield 41, 3) := by decide +kernel
theorem dX7_copyWithoutOrders_5 : decode cX7_copyWithoutOrders 5 = .ok (.putfield 41, 3) := by decide +kernel
theorem dX7_copyWithoutOrders_8 : decode cX7_copyWithoutOrders 8 = .ok (.aload_n 0, 1) := by decide +kernel
theorem dX7_copyWithoutOrders_9 : decode cX7_copyWithoutOrders 9 = .ok (.aload_n 1, 1) := by decide +kernel
theorem dX7_copyWithoutOrders_10 : decode cX7_copyWithoutOrders 10 = .ok (.getfield 83, 3) := by decide +kernel
theorem dX7_copyWithoutOrders_13 : decode cX7_copyWithoutOrders 13 = .ok (.putfield 83, 3) := by decide +kernel
theorem dX7_copyWithoutOrders_16 : decode cX7_copyWithoutOrders 16 = .ok (.aload_n 0, 1) := by decide +kernel
theorem dX7_copyWithoutOrders_17 : decode cX7_copyWithoutOrders 17 = .ok (.aload_n 1, 1) := by decide +kernel
theorem dX7_copyWithoutOrders_18 : decode cX7_copyWithoutOrders 18 = .ok (.getfield 86, 3) := by decide +kernel
theorem dX7_copyWithoutOrders_21 : decode cX7_copyWithoutOrders 21 = .ok (.putfield 86, 3) := by decide +kernel
theorem dX7_copyWithoutOrders_24 : decode cX7_copyWithoutOrders 24 = .ok (.aload_n 1, 1) := by decide +kernel
theorem dX7_copyWithoutOrders_25 : decode cX7_copyWithoutOrders 25 = .ok (.getfield 9, 3) := by decide +kernel
theorem dX7_copyWithoutOrders_28 : decode cX7_copyWithoutOrders 28 = .ok (.iconst 0, 1) := by decide +kernel
theorem dX7_copyWithoutOrders_29 : decode cX7_copyWithoutOrders 29 = .ok (.aload_n 0, 1) := by decide +kernel
theorem dX7_copyWithoutOrders_30 : decode cX7_copyWithoutOrders 30 = .ok (.getfield 9, 3) := by decide +kernel
theorem dX7_copyWithoutOrders_33 : decode cX7_copyWithoutOrders 33 = .ok (.iconst 0, 1) := by decide +kernel
theorem dX7_copyWithoutOrders_34 : decode cX7_copyWithoutOrders 34 = .ok (.bipush 8, 2) := by decide +kernel
theorem dX7_copyWithoutOrders_36 : decode cX7_copyWithoutOrders 36 = .ok (.invokestatic 50, 3) := by decide +kernel
theorem dX7_copyWithoutOrders_39 : decode cX7_copyWithoutOrders 39 = .ok (.aload_n 1, 1) := by decide +kernel
theorem dX7_copyWithoutOrders_40 : decode cX7_copyWithoutOrders 40 = .ok (.getfield 15, 3) := by decide +kernel
theorem dX7_copyWithoutOrders_43 : decode cX7_copyWithoutOrders 43 = .ok (.iconst 0, 1) := by decide +kernel
theorem dX7_copyWithoutOrders_44 : decode cX7_copyWithoutOrders 44 = .ok (.aload_n 0, 1) := by decide +kernel
theorem dX7_copyWithoutOrders_45 : decode cX7_copyWithoutOrders 45 = .ok (.getfield 15, 3) := by decide +kernel
theorem dX7_copyWithoutOrders_48 : decode cX7_copyWithoutOrders 48 = .ok (.iconst 0, 1) := by decide +kernel
theorem dX7_copyWithoutOrders_49 : decode cX7_copyWithoutOrders 49 = .ok (.bipush 8, 2) := by decide +kernel
theorem dX7_copyWithoutOrders_51 : decode cX7_copyWithoutOrders 51 = .ok (.invokestatic 50, 3) := by decide +kernel
theorem dX7_copyWithoutOrders_54 : decode cX7_copyWithoutOrders 54 = .ok (.aload_n 1, 1) := by decide +kernel
theorem dX7_copyWithoutOrders_55 : decode cX7_copyWithoutOrders 55 = .ok (.getfield 18, 3) := by decide +kernel
theorem dX7_copyWithoutOrders_58 : decode cX7_copyWithoutOrders 58 = .ok (.iconst 0, 1) := by decide +kernel
theorem dX7_copyWithoutOrders_59 : decode cX7_copyWithoutOrders 59 = .ok (.aload_n 0, 1) := by decide +kernel
theorem dX7_copyWithoutOrders_60 : decode cX7_copyWithoutOrders 60 = .ok (.getfield 18, 3) := by decide +kernel
theorem dX7_copyWithoutOrders_63 : decode cX7_copyWithoutOrders 63 = .ok (.iconst 0, 1) := by decide +kernel
theorem dX7_copyWithoutOrders_64 : decode cX7_copyWithoutOrders 64 = .ok (.bipush 10, 2) := by decide +kernel
theorem dX7_copyWithoutOrders_66 : decode cX7_copyWithoutOrders 66 = .ok (.invokestatic 50, 3) := by decide +kernel
theorem dX7_copyWithoutOrders_69 : decode cX7_copyWithoutOrders 69 = .ok (.aload_n 1, 1) := by decide +kernel
theorem dX7_copyWithoutOrders_70 : decode cX7_copyWithoutOrders 70 = .ok (.getfield 21, 3) := by decide +kernel
theorem dX7_copyWithoutOrders_73 : decode cX7_copyWithoutOrders 73 = .ok (.iconst 0, 1) := by decide +kernel
theorem dX7_copyWithoutOrders_74 : decode cX7_copyWithoutOrders 74 = .ok (.aload_n 0, 1) := by decide +kernel
theorem dX7_copyWithoutOrders_75 : decode cX7_copyWithoutOrders 75 = .ok (.getfield 21, 3) := by decide +kernel
theorem dX7_copyWithoutOrders_78 : decode cX7_copyWithoutOrders 78 = .ok (.iconst 0, 1) := by decide +kernel
theorem dX7_copyWithoutOrders_79 : decode cX7_copyWithoutOrders 79 = .ok (.iconst 4, 1) := by decide +kernel
theorem dX7_copyWithoutOrders_80 : decode cX7_copyWithoutOrders 80 = .ok (.invokestatic 50, 3) := by decide +kernel
theorem dX7_copyWithoutOrders_83 : decode cX7_copyWithoutOrders 83 = .ok (.aload_n 1, 1) := by decide +kernel
theorem dX7_copyWithoutOrders_84 : decode cX7_copyWithoutOrders 84 = .ok (.getfield 24, 3) := by decide +kernel
theorem dX7_copyWithoutOrders_87 : decode cX7_copyWithoutOrders 87 = .ok (.iconst 0, 1) := by decide +kernel
theorem dX7_copyWithoutOrders_88 : decode cX7_copyWithoutOrders 88 = .ok (.aload_n 0, 1) := by decide +kernel
theorem dX7_copyWithoutOrders_89 : decode cX7_copyWithoutOrders 89 = .ok (.getfield 24, 3) := by decide +kernel
theorem dX7_copyWithoutOrders_92 : decode cX7_copyWithoutOrders 92 = .ok (.iconst 0, 1) := by decide +kernel
theorem dX7_copyWithoutOrders_93 : decode cX7_copyWithoutOrders 93 = .ok (.iconst 3, 1) := by decide +kernel
theorem dX7_copyWithoutOrders_94 : decode cX7_copyWithoutOrders 94 = .ok (.invokestatic 50, 3) := by decide +kernel
theorem dX7_copyWithoutOrders_97 : decode cX7_copyWithoutOrders 97 = .ok (.aload_n 0, 1) := by decide +kernel
theorem dX7_copyWithoutOrders_98 : decode cX7_copyWithoutOrders 98 = .ok (.getfield 30, 3) := by decide +kernel
theorem dX7_copyWithoutOrders_101 : decode cX7_copyWithoutOrders 101 = .ok (.iconst 0, 1) := by decide +kernel
theorem dX7_copyWithoutOrders_102 : decode cX7_copyWithoutOrders 102 = .ok (.putfield 68, 3) := by decide +kernel
theorem dX7_copyWithoutOrders_105 : decode cX7_copyWithoutOrders 105 = .ok (.return_, 1) := by decide +kernel
theorem dX7_canBegin_0 : decode cX7_canBegin 0 = .ok (.aload_n 0, 1) := by decide +kernel
theorem dX7_canBegin_1 : decode cX7_canBegin 1 = .ok (.getfield 30, 3) := by decide +kernel
theorem dX7_canBegin_4 : decode cX7_canBegin 4 = .ok (.iconst 1, 1) := by decide +kernel
theorem dX7_canBegin_5 : decode cX7_canBegin 5 = .ok (.invokevirtual 182, 3) := by decide +kernel
theorem dX7_canBegin_8 : decode cX7_canBegin 8 = .ok (.aload_n 1, 1) := by decide +kernel
theorem dX7_canBegin_9 : decode cX7_canBegin 9 = .ok (.getfield 186, 3) := by decide +kernel
theorem dX7_canBegin_12 : decode cX7_canBegin 12 = .ok (.iconst 0, 1) := by decide +kernel
theorem dX7_canBegin_13 : decode cX7_canBegin 13 = .ok (.iaload, 1) := by decide +kernel
theorem dX7_canBegin_14 : decode cX7_canBegin 14 = .ok (.if_icmp .lt 5, 3) := by decide +kernel
theorem dX7_canBegin_17 : decode cX7_canBegin 17 = .ok (.iconst 0, 1) := by decide +kernel
theorem dX7_canBegin_18 : decode cX7_canBegin 18 = .ok (.ireturn, 1) := by decide +kernel
theorem dX7_canBegin_19 : decode cX7_canBegin 19 = .ok (.iload_n 2, 1) := by decide +kernel
theorem dX7_canBegin_20 : decode cX7_canBegin 20 = .ok (.tableswitch 107 0 2 #[28, 55, 81], 28) := by decide +kernel
theorem dX7_canBegin_48 : decode cX7_canBegin 48 = .ok (.aload_n 0, 1) := by decide +kernel
theorem dX7_canBegin_49 : decode cX7_canBegin 49 = .ok (.getfield 18, 3) := by decide +kernel
theorem dX7_canBegin_52 : decode cX7_canBegin 52 = .ok (.iload_n 3, 1) := by decide +kernel
theorem dX7_canBegin_53 : decode cX7_canBegin 53 = .ok (.iaload, 1) := by decide +kernel
theorem dX7_canBegin_54 : decode cX7_canBegin 54 = .ok (.iconst 1, 1) := by decide +kernel
theorem dX7_canBegin_55 : decode cX7_canBegin 55 = .ok (.if_icmp .ne 18, 3) := by decide +kernel
theorem dX7_canBegin_58 : decode cX7_canBegin 58 = .ok (.aload_n 0, 1) := by decide +kernel
theorem dX7_canBegin_59 : decode cX7_canBegin 59 = .ok (.getfield 30, 3) := by decide +kernel
theorem dX7_canBegin_62 : decode cX7_canBegin 62 = .ok (.iload_n 3, 1) := by decide +kernel
theorem dX7_canBegin_63 : decode cX7_canBegin 63 = .ok (.invokevirtual 189, 3) := by decide +kernel
theorem dX7_canBegin_66 : decode cX7_canBegin 66 = .ok (.ifCond .ne 7, 3) := by decide +kernel
theorem dX7_canBegin_69 : decode cX7_canBegin 69 = .ok (.iconst 1, 1) := by decide +kernel
theorem dX7_canBegin_70 : decode cX7_canBegin 70 = .ok (.goto 4, 3) := by decide +kernel
theorem dX7_canBegin_73 : decode cX7_canBegin 73 = .ok (.iconst 0, 1) := by decide +kernel
theorem dX7_canBegin_74 : decode cX7_canBegin 74 = .ok (.ireturn, 1) := by decide +kernel
theorem dX7_canBegin_75 : decode cX7_canBegin 75 = .ok (.aload_n 0, 1) := by decide +kernel
theorem dX7_canBegin_76 : decode cX7_canBegin 76 = .ok (.getfield 18, 3) := by decide +kernel
theorem dX7_canBegin_79 : decode cX7_canBegin 79 = .ok (.iload_n 3, 1) := by decide +kernel
theorem dX7_canBegin_80 : decode cX7_canBegin 80 = .ok (.iaload, 1) := by decide +kernel
theorem dX7_canBegin_81 : decode cX7_canBegin 81 = .ok (.ifCond .ne 18, 3) := by decide +kernel
theorem dX7_canBegin_84 : decode cX7_canBegin 84 = .ok (.aload_n 0, 1) := by decide +kernel
theorem dX7_canBegin_85 : decode cX7_canBegin 85 = .ok (.getfield 30, 3) := by decide +kernel
theorem dX7_canBegin_88 : decode cX7_canBegin 88 = .ok (.iload_n 3, 1) := by decide +kernel
theorem dX7_canBegin_89 : decode cX7_canBegin 89 = .ok (.invokevirtual 189, 3) := by decide +kernel
theorem dX7_canBegin_92 : decode cX7_canBegin 92 = .ok (.ifCond .ne 7, 3) := by decide +kernel
theorem dX7_canBegin_95 : decode cX7_canBegin 95 = .ok (.iconst 1, 1) := by decide +kernel
theorem dX7_canBegin_96 : decode cX7_canBegin 96 = .ok (.goto 4, 3) := by decide +kernel
theorem dX7_canBegin_99 : decode cX7_canBegin 99 = .ok (.iconst 0, 1) := by decide +kernel
theorem dX7_canBegin_100 : decode cX7_canBegin 100 = .ok (.ireturn, 1) := by decide +kernel
theorem dX7_canBegin_101 : decode cX7_canBegin 101 = .ok (.aload_n 0, 1) := by decide +kernel
theorem dX7_canBegin_102 : decode cX7_canBegin 102 = .ok (.getfield 21, 3) := by decide +kernel
theorem dX7_canBegin_105 : decode cX7_canBegin 105 = .ok (.iload_n 3, 1) := by decide +kernel
theorem dX7_canBegin_106 : decode cX7_canBegin 106 = .ok (.iaload, 1) := by decide +kernel
theorem dX7_canBegin_107 : decode cX7_canBegin 107 = .ok (.ifCond .ne 18, 3) := by decide +kernel
theorem dX7_canBegin_110 : decode cX7_canBegin 110 = .ok (.aload_n 0, 1) := by decide +kernel
theorem dX7_canBegin_111 : decode cX7_canBegin 111 = .ok (.getfield 30, 3) := by decide +kernel
theorem dX7_canBegin_114 : decode cX7_canBegin 114 = .ok (.iload_n 3, 1) := by decide +kernel
theorem dX7_canBegin_115 : decode cX7_canBegin 115 = .ok (.invokevirtual 193, 3) := by decide +kernel
theorem dX7_canBegin_118 : decode cX7_canBegin 118 = .ok (.ifCond .ne 7, 3) := by decide +kernel
theorem dX7_canBegin_121 : decode cX7_canBegin 121 = .ok (.iconst 1, 1) := by decide +kernel
theorem dX7_canBegin_122 : decode cX7_canBegin 122 = .ok (.goto 4, 3) := by decide +kernel
theorem dX7_canBegin_125 : decode cX7_canBegin 125 = .ok (.iconst 0, 1) := by decide +kernel
theorem dX7_canBegin_126 : decode cX7_canBegin 126 = .ok (.ireturn, 1) := by decide +kernel
theorem dX7_canBegin_127 : decode cX7_canBegin 127 = .ok (.iconst 1, 1) := by decide +kernel
theorem dX7_canBegin_128 : decode cX7_canBegin 128 = .ok (.ireturn, 1) := by decide +kernel
def b_X4_giveRow_76 (Q : Nat) (t3 : Int32 × Mm) (t11 : Int32 × Int32) : Option ((Int32 × Int32) ⊕ (Int32)) :=
  (ald t3.2 (Q + 16) 5 0).bind fun x13 => if x13 ≤ t11.2 then (some (Sum.inr t11.1)) else ((ald t3.2 38 3 t11.2).bind fun x14 => (ald t3.2 38 3 t11.1).bind fun x15 => (if x15 ≤ x14 then (some t11.1) else (some t11.2) : Option (Int32)).bind fun y16 => some (Sum.inl (y16, t11.2 + 1)))
def b_X4_giveRow_11 (F : Nat) (Q : Nat) (S : Nat) (a3 : Int32) (t3 : Int32 × Mm) : Option ((Int32 × Mm) ⊕ (Mm)) :=
  if a3 ≤ t3.1 then (some (Sum.inr t3.2)) else ((ald t3.2 36 3 t3.1).bind fun x5 => (if (20 : Int32) ≤ x5 then (some 2) else (some 0) : Option (Int32)).bind fun y6 => (ald t3.2 36 3 t3.1).bind fun x7 => (if (20 : Int32) ≤ x7 then ((ald t3.2 36 3 t3.1).bind fun x9 => some (x9 - (20 : Int32))) else ((ald t3.2 36 3 t3.1).bind fun x10 => some x10) : Option (Int32)).bind fun y8 => (iter F (b_X4_giveRow_76 Q t3) ((0, 1) : Int32 × Int32)).bind (fun e12 : Int32 => (ald t3.2 38 3 e12).bind fun x17 => bind2 (f_X0_append t3.2 (S + 6) ((t3.2 S 0) + x17) y6 y8 0) fun x18 m19 => (ald m19 38 3 e12).bind fun x20 => (f_X8_minutesFor m19 Q y6 y8).bind fun x21 => (ast m19 38 3 e12 (x20 + x21)).bind fun m23 => some (Sum.inl (t3.1 + 1, m23))))
def f_X4_giveRow (F : Nat) (m : Mm) (Q : Nat) (S : Nat) (a3 : Int32) : Option (Mm) :=
  (f_J7_fill m 38 3 0).bind fun m2 => (iter F (b_X4_giveRow_11 F Q S a3) ((0, m2) : Int32 × Mm)).bind (fun e4 : Mm => some e4)
set_option maxHeartbeats 4000000 in
set_option maxRecDepth 100000 in
theorem ct_X4_giveRow (F : Nat) {n : Nat} (hn : 113 ≤ n) (P D : Nat) (T : Option Nat) (m : Mm) (Q : Nat) (hQ : isPl Q) (S : Nat) (hS : isSt S) (a3 : Int32) : Ct yX4_giveRow cX4_giveRow 9 none 1 24 [.ref 34, .ref Q, .ref S, .int a3] n n m (RF P D T) (rV (RF P D T) (f_X4_giveRow F m Q S a3)) := by
  refine Ct.ofV (own := RX4) (nm := "giveRow") [(0, .ref 34), (1, .ref Q), (2, .ref S), (3, .int a3)] (by decide) (Nat.le_of_ble_eq_true rfl) rfl rfl rfl ?_
  unfold f_X4_giveRow
  refine J_aload_n 0 0 34 dX4_giveRow_0 rfl rfl ?_
  refine J_getR 34 4 5 38 dX4_giveRow_1 fl_4_21 rfl rfl (Nat.lt_of_lt_of_le (Nat.le_of_ble_eq_true rfl) hn) rfl ?_
  refine J_iconst 0 dX4_giveRow_4 (by decide) ?_
  refine J_callSV 2 [.ref 38, .int 0] dX4_giveRow_5 mv_J7_fill mv_J7_fills lk_4_82 (ct_J7_fill m (RF P D T) 38 3 rfl (Nat.lt_of_lt_of_le (Nat.le_of_ble_eq_true rfl) hn) 0) rfl ⟨by decide, by decide⟩ (Nat.le_of_ble_eq_true rfl) (fun m2 => ?_)
  refine J_iconst 0 dX4_giveRow_8 (by decide) ?_
  refine J_istore 4 [(4, .int 0), (0, .ref 34), (1, .ref Q), (2, .ref S), (3, .int a3)] dX4_giveRow_9 (by decide) rfl ?_
  refine J_lv [1, 2, 3, 4, 0] rfl ?_
  refine J_loop (pc := 11) (fun t3 : Int32 × Mm => [(0, .ref 34), (1, .ref Q), (2, .ref S), (3, .int a3), (4, .int t3.1)]) (fun t3 => t3.2) (fun _ => 163) (fun e4 => []) (fun _ => []) (fun e4 => e4) ?_ (fun t3 k1 hBt3 hXt3 => ?_) F ((0, m2))
  · refine fun e4 => ?_
    exact J_vretV dX4_giveRow_163 rfl rfl
  · unfold b_X4_giveRow_11
    refine J_iload 4 4 t3.1 dX4_giveRow_11 rfl ?_
    refine J_iload_n 3 3 a3 dX4_giveRow_13 rfl rfl ?_
    refine J_icmp_ge 163 dX4_giveRow_14 (by decide) ?_ ?_
    · exact J_lv [] rfl (hXt3 t3.2)
    · refine J_aload_n 0 0 34 dX4_giveRow_17 rfl rfl ?_
      refine J_getR 34 4 3 36 dX4_giveRow_18 fl_4_15 rfl rfl (Nat.lt_of_lt_of_le (Nat.le_of_ble_eq_true rfl) hn) rfl ?_
      refine J_iload 4 4 t3.1 dX4_giveRow_21 rfl ?_
      refine J_iald 36 3 dX4_giveRow_23 rfl (Nat.lt_of_lt_of_le (Nat.le_of_ble_eq_true rfl) hn) (fun x5 => ?_)
      refine J_bipush 20 dX4_giveRow_24 (by decide) ?_
      refine J_seqJ 34 (fun y6 : Int32 => [(0, .ref 34), (1, .ref Q), (2, .ref S), (3, .int a3), (4, .int t3.1)]) (fun y6 => [.int y6]) (fun y6 => t3.2) (fun y6 => ?_) (fun k1 hEy6 => ?_)
      · refine J_istore 5 [(5, .int y6), (0, .ref 34), (1, .ref Q), (2, .ref S), (3, .int a3), (4, .int t3.1)] dX4_giveRow_34 (by decide) rfl ?_
        refine J_aload_n 0 1 34 dX4_giveRow_36 rfl rfl ?_
        refine J_getR 34 4 3 36 dX4_giveRow_37 fl_4_15 rfl rfl (Nat.lt_of_lt_of_le (Nat.le_of_ble_eq_true rfl) hn) rfl ?_
        refine J_iload 4 5 t3.1 dX4_giveRow_40 rfl ?_
        refine J_iald 36 3 dX4_giveRow_42 rfl (Nat.lt_of_lt_of_le (Nat.le_of_ble_eq_true rfl) hn) (fun x7 => ?_)
        refine J_bipush 20 dX4_giveRow_43 (by decide) ?_
        refine J_seqJ 68 (fun y8 : Int32 => [(0, .ref 34), (1, .ref Q), (2, .ref S), (3, .int a3), (4, .int t3.1), (5, .int y6)]) (fun y8 => [.int y8]) (fun y8 => t3.2) (fun y8 => ?_) (fun k1 hEy8 => ?_)
        · refine J_istore 6 [(6, .int y8), (0, .ref 34), (1, .ref Q), (2, .ref S), (3, .int a3), (4, .int t3.1), (5, .int y6)] dX4_giveRow_68 (by decide) rfl ?_
          refine J_iconst 0 dX4_giveRow_70 (by decide) ?_
          refine J_istore 7 [(7, .int 0), (6, .int y8), (0, .ref 34), (1, .ref Q), (2, .ref S), (3, .int a3), (4, .int t3.1), (5, .int y6)] dX4_giveRow_71 (by decide) rfl ?_
          refine J_iconst 1 dX4_giveRow_73 (by decide) ?_
          refine J_istore 8 [(8, .int 1), (7, .int 0), (6, .int y8), (0, .ref 34), (1, .ref Q), (2, .ref S), (3, .int a3), (4, .int t3.1), (5, .int y6)] dX4_giveRow_74 (by decide) rfl ?_
          refine J_lv [3, 4, 5, 6, 7, 8, 2, 1, 0] rfl ?_
          refine J_loop (pc := 76) (fun t11 : Int32 × Int32 => [(0, .ref 34), (1, .ref Q), (2, .ref S), (3, .int a3), (4, .int t3.1), (5, .int y6), (6, .int y8), (7, .int t11.1), (8, .int t11.2)]) (fun t11 => t3.2) (fun _ => 114) (fun e12 => [(0, .ref 34), (1, .ref Q), (2, .ref S), (3, .int a3), (4, .int t3.1), (5, .int y6), (6, .int y8), (7, .int e12)]) (fun _ => []) (fun e12 => t3.2) ?_ (fun t11 k1 hBt11 hXt11 => ?_) F ((0, 1))
          · refine fun e12 => ?_
            refine J_aload_n 2 2 S dX4_giveRow_114 rfl rfl ?_
            refine J_getR S 7 9 (S + 6) dX4_giveRow_115 fl_4_91 (layc_St_0 hS) rfl (lt_St_0 hS hn) (rf_St_0_9 hS) ?_
            refine J_aload_n 2 2 S dX4_giveRow_118 rfl rfl ?_
            refine J_getI S 7 0 dX4_giveRow_119 fl_4_95 (layc_St_0 hS) rfl (lt_St_0 hS hn) ?_
            refine J_aload_n 0 0 34 dX4_giveRow_122 rfl rfl ?_
            refine J_getR 34 4 5 38 dX4_giveRow_123 fl_4_21 rfl rfl (Nat.lt_of_lt_of_le (Nat.le_of_ble_eq_true rfl) hn) rfl ?_
            refine J_iload 7 7 e12 dX4_giveRow_126 rfl ?_
            refine J_iald 38 3 dX4_giveRow_128 rfl (Nat.lt_of_lt_of_le (Nat.le_of_ble_eq_true rfl) hn) (fun x17 => ?_)
            refine J_iadd dX4_giveRow_129 ?_
            refine J_iload 5 5 y6 dX4_giveRow_130 rfl ?_
            refine J_iload 6 6 y8 dX4_giveRow_132 rfl ?_
            refine J_iconst 0 dX4_giveRow_134 (by decide) ?_
            refine J_callVI (S + 6) 0 4 [.int ((t3.2 S 0) + x17), .int y6, .int y8, .int 0] dX4_giveRow_135 mv_X0_append mv_X0_appendv lk_4_98 (ct_X0_append F hn P D T t3.2 (S + 6) (or_St hS) ((t3.2 S 0) + x17) y6 y8 0) rfl (layc_St_6 hS) (by decide) rfl (lt_St_6 hS hn) ⟨by decide, by decide⟩ (Nat.le_of_ble_eq_true rfl) (fun x18 m19 => ?_)
            refine J_pop dX4_giveRow_138 rfl ?_
            refine J_aload_n 0 0 34 dX4_giveRow_139 rfl rfl ?_
            refine J_getR 34 4 5 38 dX4_giveRow_140 fl_4_21 rfl rfl (Nat.lt_of_lt_of_le (Nat.le_of_ble_eq_true rfl) hn) rfl ?_
            refine J_iload 7 7 e12 dX4_giveRow_143 rfl ?_
            refine J_dup2 dX4_giveRow_145 rfl rfl ?_
            refine J_iald 38 3 dX4_giveRow_146 rfl (Nat.lt_of_lt_of_le (Nat.le_of_ble_eq_true rfl) hn) (fun x20 => ?_)
            refine J_aload_n 1 1 Q dX4_giveRow_147 rfl rfl ?_
            refine J_iload 5 5 y6 dX4_giveRow_148 rfl ?_
            refine J_iload 6 6 y8 dX4_giveRow_150 rfl ?_
            refine J_callSNP 3 "WhichHold" [.ref Q, .int y6, .int y8] dX4_giveRow_152 mv_X8_minutesFor mv_X8_minutesFors lk_4_104 (ct_X8_minutesFor F hn P D T m19 Q hQ y6 y8) rfl ⟨by decide, by decide⟩ (Nat.le_of_ble_eq_true rfl) (fun x21 => ?_)
            refine J_iadd dX4_giveRow_155 ?_
            refine J_iast 38 3 dX4_giveRow_156 rfl (Nat.lt_of_lt_of_le (Nat.le_of_ble_eq_true rfl) hn) (fun m23 => ?_)
            refine J_iinc 4 4 [(4, .int (t3.1 + 1)), (0, .ref 34), (1, .ref Q), (2, .ref S), (3, .int a3), (5, .int y6), (6, .int y8), (7, .int e12)] t3.1 (t3.1 + 1) dX4_giveRow_157 rfl rfl (by decide) rfl ?_
            refine J_goto 11 dX4_giveRow_160 (by decide) ?_
            exact J_lv [1, 2, 3, 4, 0] rfl (hBt3 (t3.1 + 1, m23))
          · unfold b_X4_giveRow_76
            refine J_iload 8 8 t11.2 dX4_giveRow_76 rfl ?_
            refine J_aload_n 1 1 Q dX4_giveRow_78 rfl rfl ?_
            refine J_getR Q 1 19 (Q + 16) dX4_giveRow_79 fl_4_88 (layc_Pl_0 hQ) rfl (lt_Pl_0 hQ hn) (rf_Pl_0_19 hQ) ?_
            refine J_iconst 0 dX4_giveRow_82 (by decide) ?_
            refine J_iald (Q + 16) 5 dX4_giveRow_83 (lay_Pl_16 hQ) (lt_Pl_16 hQ hn) (fun x13 => ?_)
            refine J_icmp_ge 114 dX4_giveRow_84 (by decide) ?_ ?_
            · exact J_lv [0, 1, 2, 3, 4, 5, 6, 7] rfl (hXt11 t11.1)
            · refine J_aload_n 0 0 34 dX4_giveRow_87 rfl rfl ?_
              refine J_getR 34 4 5 38 dX4_giveRow_88 fl_4_21 rfl rfl (Nat.lt_of_lt_of_le (Nat.le_of_ble_eq_true rfl) hn) rfl ?_
              refine J_iload 8 8 t11.2 dX4_giveRow_91 rfl ?_
              refine J_iald 38 3 dX4_giveRow_93 rfl (Nat.lt_of_lt_of_le (Nat.le_of_ble_eq_true rfl) hn) (fun x14 => ?_)
              refine J_aload_n 0 0 34 dX4_giveRow_94 rfl rfl ?_
              refine J_getR 34 4 5 38 dX4_giveRow_95 fl_4_21 rfl rfl (Nat.lt_of_lt_of_le (Nat.le_of_ble_eq_true rfl) hn) rfl ?_
              refine J_iload 7 7 t11.1 dX4_giveRow_98 rfl ?_
              refine J_iald 38 3 dX4_giveRow_100 rfl (Nat.lt_of_lt_of_le (Nat.le_of_ble_eq_true rfl) hn) (fun x15 => ?_)
              refine J_seqJ 108 (fun y16 : Int32 => [(0, .ref 34), (1, .ref Q), (2, .ref S), (3, .int a3), (4, .int t3.1), (5, .int y6), (6, .int y8), (7, .int y16), (8, .int t11.2)]) (fun y16 => []) (fun y16 => t3.2) (fun y16 => ?_) (fun k1 hEy16 => ?_)
              · refine J_iinc 8 8 [(8, .int (t11.2 + 1)), (0, .ref 34), (1, .ref Q), (2, .ref S), (3, .int a3), (4, .int t3.1), (5, .int y6), (6, .int y8), (7, .int y16)] t11.2 (t11.2 + 1) dX4_giveRow_108 rfl rfl (by decide) rfl ?_
                refine J_goto 76 dX4_giveRow_111 (by decide) ?_
                exact J_lv [1, 2, 3, 4, 5, 6, 7, 8, 0] rfl (hBt11 (y16, t11.2 + 1))
              · refine J_icmp_ge 108 dX4_giveRow_101 (by decide) ?_ ?_
                · exact J_lv [0, 1, 2, 3, 4, 5, 6, 7, 8] rfl (hEy16 t11.1)
                · refine J_iload 8 8 t11.2 dX4_giveRow_104 rfl ?_
                  refine J_istore 7 [(7, .int t11.2), (0, .ref 34), (1, .ref Q), (2, .ref S), (3, .int a3), (4, .int t3.1), (5, .int y6), (6, .int y8), (8, .int t11.2)] dX4_giveRow_106 (by decide) rfl ?_
                  exact J_lv [1, 2, 3, 4, 5, 6, 7, 0, 8] rfl (hEy16 t11.2)
        · refine J_icmp_ge 58 dX4_giveRow_45 (by decide) ?_ ?_
          · refine J_aload_n 0 1 34 dX4_giveRow_58 rfl rfl ?_
            refine J_getR 34 4 3 36 dX4_giveRow_59 fl_4_15 rfl rfl (Nat.lt_of_lt_of_le (Nat.le_of_ble_eq_true rfl) hn) rfl ?_
            refine J_iload 4 5 t3.1 dX4_giveRow_62 rfl ?_
            refine J_iald 36 3 dX4_giveRow_64 rfl (Nat.lt_of_lt_of_le (Nat.le_of_ble_eq_true rfl) hn) (fun x9 => ?_)
            refine J_bipush 20 dX4_giveRow_65 (by decide) ?_
            refine J_isub dX4_giveRow_67 ?_
            exact J_lv [1, 2, 3, 4, 5, 0] rfl (hEy8 (x9 - (20 : Int32)))
          · refine J_aload_n 0 1 34 dX4_giveRow_48 rfl rfl ?_
            refine J_getR 34 4 3 36 dX4_giveRow_49 fl_4_15 rfl rfl (Nat.lt_of_lt_of_le (Nat.le_of_ble_eq_true rfl) hn) rfl ?_
            refine J_iload 4 5 t3.1 dX4_giveRow_52 rfl ?_
            refine J_iald 36 3 dX4_giveRow_54 rfl (Nat.lt_of_lt_of_le (Nat.le_of_ble_eq_true rfl) hn) (fun x10 => ?_)
            refine J_goto 68 dX4_giveRow_55 (by decide) ?_
            exact J_lv [1, 2, 3, 4, 5, 0] rfl (hEy8 x10)
      · refine J_icmp_ge 33 dX4_giveRow_26 (by decide) ?_ ?_
        · refine J_iconst 2 dX4_giveRow_33 (by decide) ?_
          exact J_lv [0, 1, 2, 3, 4] rfl (hEy6 2)
        · refine J_iconst 0 dX4_giveRow_29 (by decide) ?_
          refine J_goto 34 dX4_giveRow_30 (by decide) ?_
          exact J_lv [0, 1, 2, 3, 4] rfl (hEy6 0)
def f_X8_isLater (a0 : Int32) (a1 : Int32) : Option (Int32) :=
  if a1 = ((-4) : Int32) then (some 0) else (if a0 = ((-4) : Int32) then (some 1) else (if a0 ≤ a1 then (some 0) else (some 1)))
set_option maxHeartbeats 4000000 in
set_option maxRecDepth 100000 in
theorem ct_X8_isLater (F : Nat) {n : Nat} (hn : 113 ≤ n) (P D : Nat) (T : Option Nat) (m : Mm) (a0 : Int32) (a1 : Int32) : Ct yX8_isLater cX8_isLater 2 (some .boolean) 0 0 [.int a0, .int a1] n n m (RF P D T) (rP m (RF P D T) (f_X8_isLater a0 a1)) := by
  refine Ct.ofP (own := RX8) (nm := "isLater") [(0, .int a0), (1, .int a1)] (by decide) (Nat.le_of_ble_eq_true rfl) rfl rfl rfl ?_
  unfold f_X8_isLater
  refine J_iload_n 1 1 a1 dX8_isLater_0 rfl rfl ?_
  refine J_bipush (-4) dX8_isLater_1 (by decide) ?_
  refine J_icmp_eq 21 dX8_isLater_3 (by decide) ?_ ?_
  · refine J_iconst 0 dX8_isLater_21 (by decide) ?_
    exact J_zretP dX8_isLater_22 rfl rfl rfl
  · refine J_iload_n 0 0 a0 dX8_isLater_6 rfl rfl ?_
    refine J_bipush (-4) dX8_isLater_7 (by decide) ?_
    refine J_icmp_eq 17 dX8_isLater_9 (by decide) ?_ ?_
    · refine J_iconst 1 dX8_isLater_17 (by decide) ?_
      refine J_goto 22 dX8_isLater_18 (by decide) ?_
      exact J_zretP dX8_isLater_22 rfl rfl rfl
    · refine J_iload_n 0 0 a0 dX8_isLater_12 rfl rfl ?_
      refine J_iload_n 1 1 a1 dX8_isLater_13 rfl rfl ?_
      refine J_icmp_le 21 dX8_isLater_14 (by decide) ?_ ?_
      · refine J_iconst 0 dX8_isLater_21 (by decide) ?_
        exact J_zretP dX8_isLater_22 rfl rfl rfl
      · refine J_iconst 1 dX8_isLater_17 (by decide) ?_
        refine J_goto 22 dX8_isLater_18 (by decide) ?_
        exact J_zretP dX8_isLater_22 rfl rfl rfl
def f_X4_keepIfBetter (m : Mm) (a1 : Int32) (a2 : Int32) : Option (Mm) :=
  (f_X8_isLater a1 (m 34 0)).bind fun x1 => (if x1 = 0 then (if a1 = (m 34 0) then (if (m 34 1) ≤ a2 then (some 0) else (some 1)) else (some 0)) else (some 1) : Option (Int32)).bind fun y3 => letv (fun y4 : Unit => letv (up2 m 34 9 1) fun m6 => letv (up2 m6 34 0 a1) fun m7 => letv (up2 m7 34 1 a2) fun m8 => (acopy m8 36 3 0 37 3 0 3).bind fun m9 => some m9) fun j5 => if (m 34 9) = 0 then (j5 ()) else (if y3 = 0 then (some m) else (j5 ()))
set_option maxHeartbeats 4000000 in
set_option maxRecDepth 100000 in
theorem ct_X4_keepIfBetter (F : Nat) {n : Nat} (hn : 113 ≤ n) (P D : Nat) (T : Option Nat) (m : Mm) (a1 : Int32) (a2 : Int32) : Ct yX4_keepIfBetter cX4_keepIfBetter 4 none 1 26 [.ref 34, .int a1, .int a2] n n m (RF P D T) (rV (RF P D T) (f_X4_keepIfBetter m a1 a2)) := by
  refine Ct.ofV (own := RX4) (nm := "keepIfBetter") [(0, .ref 34), (1, .int a1), (2, .int a2)] (by decide) (Nat.le_of_ble_eq_true rfl) rfl rfl rfl ?_
  unfold f_X4_keepIfBetter
  refine J_iload_n 1 1 a1 dX4_keepIfBetter_0 rfl rfl ?_
  refine J_aload_n 0 0 34 dX4_keepIfBetter_1 rfl rfl ?_
  refine J_getI 34 4 0 dX4_keepIfBetter_2 fl_4_108 rfl rfl (Nat.lt_of_lt_of_le (Nat.le_of_ble_eq_true rfl) hn) ?_
  refine J_callSNP 2 "WhichHold" [.int a1, .int (m 34 0)] dX4_keepIfBetter_5 mv_X8_isLater mv_X8_isLaters lk_4_111 (ct_X8_isLater F hn P D T m a1 (m 34 0)) rfl ⟨by decide, by decide⟩ (Nat.le_of_ble_eq_true rfl) (fun x1 => ?_)
  refine J_seqJ 32 (fun y3 : Int32 => [(0, .ref 34), (1, .int a1), (2, .int a2)]) (fun y3 => [.int y3]) (fun y3 => m) (fun y3 => ?_) (fun k1 hEy3 => ?_)
  · refine J_istore_n 3 [(3, .int y3), (0, .ref 34), (1, .int a1), (2, .int a2)] dX4_keepIfBetter_32 rfl (by decide) rfl ?_
    refine J_aload_n 0 1 34 dX4_keepIfBetter_33 rfl rfl ?_
    refine J_getI 34 4 9 dX4_keepIfBetter_34 fl_4_38 rfl rfl (Nat.lt_of_lt_of_le (Nat.le_of_ble_eq_true rfl) hn) ?_
    refine J_letJ 44 (fun y4 : Unit => [(0, .ref 34), (1, .int a1), (2, .int a2)]) (fun y4 => []) (fun y4 => m) (fun y4 => ?_) (fun j5 hEj5 => ?_)
    · refine J_aload_n 0 0 34 dX4_keepIfBetter_44 rfl rfl ?_
      refine J_iconst 1 dX4_keepIfBetter_45 (by decide) ?_
      refine J_putI 34 4 9 dX4_keepIfBetter_46 fl_4_38 rfl rfl (Nat.lt_of_lt_of_le (Nat.le_of_ble_eq_true rfl) hn) rfl rfl rfl (fun m6 => ?_)
      refine J_aload_n 0 0 34 dX4_keepIfBetter_49 rfl rfl ?_
      refine J_iload_n 1 1 a1 dX4_keepIfBetter_50 rfl rfl ?_
      refine J_putI 34 4 0 dX4_keepIfBetter_51 fl_4_108 rfl rfl (Nat.lt_of_lt_of_le (Nat.le_of_ble_eq_true rfl) hn) rfl rfl rfl (fun m7 => ?_)
      refine J_aload_n 0 0 34 dX4_keepIfBetter_54 rfl rfl ?_
      refine J_iload_n 2 2 a2 dX4_keepIfBetter_55 rfl rfl ?_
      refine J_putI 34 4 1 dX4_keepIfBetter_56 fl_4_114 rfl rfl (Nat.lt_of_lt_of_le (Nat.le_of_ble_eq_true rfl) hn) rfl rfl rfl (fun m8 => ?_)
      refine J_aload_n 0 0 34 dX4_keepIfBetter_59 rfl rfl ?_
      refine J_getR 34 4 3 36 dX4_keepIfBetter_60 fl_4_15 rfl rfl (Nat.lt_of_lt_of_le (Nat.le_of_ble_eq_true rfl) hn) rfl ?_
      refine J_iconst 0 dX4_keepIfBetter_63 (by decide) ?_
      refine J_aload_n 0 0 34 dX4_keepIfBetter_64 rfl rfl ?_
      refine J_getR 34 4 4 37 dX4_keepIfBetter_65 fl_4_18 rfl rfl (Nat.lt_of_lt_of_le (Nat.le_of_ble_eq_true rfl) hn) rfl ?_
      refine J_iconst 0 dX4_keepIfBetter_68 (by decide) ?_
      refine J_iconst 3 dX4_keepIfBetter_69 (by decide) ?_
      refine J_acopy 36 3 37 3 dX4_keepIfBetter_70 lk_4_117 rfl rfl (Nat.lt_of_lt_of_le (Nat.le_of_ble_eq_true rfl) hn) (Nat.lt_of_lt_of_le (Nat.le_of_ble_eq_true rfl) hn) (by decide) (Nat.le_of_ble_eq_true rfl) (fun m9 => ?_)
      exact J_vretV dX4_keepIfBetter_73 rfl rfl
    · refine J_if_eq 44 dX4_keepIfBetter_37 (by decide) ?_ ?_
      · exact J_lv [1, 2, 3] rfl (hEj5 ())
      · refine J_iload_n 3 0 y3 dX4_keepIfBetter_40 rfl rfl ?_
        refine J_if_eq 73 dX4_keepIfBetter_41 (by decide) ?_ ?_
        · exact J_vretV dX4_keepIfBetter_73 rfl rfl
        · exact J_lv [1, 2, 3] rfl (hEj5 ())
  · refine J_if_ne 27 dX4_keepIfBetter_8 (by decide) ?_ ?_
    · refine J_iconst 1 dX4_keepIfBetter_27 (by decide) ?_
      refine J_goto 32 dX4_keepIfBetter_28 (by decide) ?_
      exact J_lv [0, 1, 2] rfl (hEy3 1)
    · refine J_iload_n 1 1 a1 dX4_keepIfBetter_11 rfl rfl ?_
      refine J_aload_n 0 0 34 dX4_keepIfBetter_12 rfl rfl ?_
      refine J_getI 34 4 0 dX4_keepIfBetter_13 fl_4_108 rfl rfl (Nat.lt_of_lt_of_le (Nat.le_of_ble_eq_true rfl) hn) ?_
      refine J_icmp_ne 31 dX4_keepIfBetter_16 (by decide) ?_ ?_
      · refine J_iconst 0 dX4_keepIfBetter_31 (by decide) ?_
        exact J_lv [0, 1, 2] rfl (hEy3 0)
      · refine J_iload_n 2 2 a2 dX4_keepIfBetter_19 rfl rfl ?_
        refine J_aload_n 0 0 34 dX4_keepIfBetter_20 rfl rfl ?_
        refine J_getI 34 4 1 dX4_keepIfBetter_21 fl_4_114 rfl rfl (Nat.lt_of_lt_of_le (Nat.le_of_ble_eq_true rfl) hn) ?_
        refine J_icmp_ge 31 dX4_keepIfBetter_24 (by decide) ?_ ?_
        · refine J_iconst 0 dX4_keepIfBetter_31 (by decide) ?_
          exact J_lv [0, 1, 2] rfl (hEy3 0)
        · refine J_iconst 1 dX4_keepIfBetter_27 (by decide) ?_
          refine J_goto 32 dX4_keepIfBetter_28 (by decide) ?_
          exact J_lv [0, 1, 2] rfl (hEy3 1)
def b_X4_listChoices_7 (Q : Nat) (S : Nat) (t2 : Int32 × Mm) : Option ((Int32 × Mm) ⊕ (Mm)) :=
  if (t2.2 Q 1) ≤ t2.1 then (some (Sum.inr t2.2)) else ((ald t2.2 (S + 3) 10 t2.1).bind fun x4 => (if x4 = (1 : Int32) then (letv (t2.2 34 6) fun x6 => letv (up2 t2.2 34 6 (x6 + (1 : Int32))) fun m7 => (ast m7 35 14 x6 t2.1).bind fun m8 => some m8) else (some t2.2) : Option (Mm)).bind fun y5 => some (Sum.inl (t2.1 + 1, y5)))
def b_X4_listChoices_50 (Q : Nat) (S : Nat) (t9 : Int32 × Mm) : Option ((Int32 × Mm) ⊕ (Mm)) :=
  if (t9.2 Q 2) ≤ t9.1 then (some (Sum.inr t9.2)) else ((ald t9.2 (S + 4) 4 t9.1).bind fun x11 => (if x11 = 0 then (letv (t9.2 34 6) fun x13 => letv (up2 t9.2 34 6 (x13 + (1 : Int32))) fun m14 => (ast m14 35 14 x13 ((20 : Int32) + t9.1)).bind fun m15 => some m15) else (some t9.2) : Option (Mm)).bind fun y12 => some (Sum.inl (t9.1 + 1, y12)))
def f_X4_listChoices (F : Nat) (m : Mm) (Q : Nat) (S : Nat) : Option (Mm) :=
  letv (up2 m 34 6 0) fun m1 => (iter F (b_X4_listChoices_7 Q S) ((0, m1) : Int32 × Mm)).bind (fun e3 : Mm => (iter F (b_X4_listChoices_50 Q S) ((0, e3) : Int32 × Mm)).bind (fun e10 : Mm => some e10))
set_option maxHeartbeats 4000000 in
set_option maxRecDepth 100000 in
theorem ct_X4_listChoices (F : Nat) {n : Nat} (hn : 113 ≤ n) (P D : Nat) (T : Option Nat) (m : Mm) (Q : Nat) (hQ : isPl Q) (S : Nat) (hS : isSt S) : Ct yX4_listChoices cX4_listChoices 4 none 0 0 [.ref 34, .ref Q, .ref S] n n m (RF P D T) (rV (RF P D T) (f_X4_listChoices F m Q S)) := by
  refine Ct.ofV (own := RX4) (nm := "listChoices") [(0, .ref 34), (1, .ref Q), (2, .ref S)] (by decide) (Nat.le_of_ble_eq_true rfl) rfl rfl rfl ?_
  unfold f_X4_listChoices
  refine J_aload_n 0 0 34 dX4_listChoices_0 rfl rfl ?_
  refine J_iconst 0 dX4_listChoices_1 (by decide) ?_
  refine J_putI 34 4 6 dX4_listChoices_2 fl_4_32 rfl rfl (Nat.lt_of_lt_of_le (Nat.le_of_ble_eq_true rfl) hn) rfl rfl rfl (fun m1 => ?_)
  refine J_iconst 0 dX4_listChoices_5 (by decide) ?_
  refine J_istore_n 3 [(3, .int 0), (0, .ref 34), (1, .ref Q), (2, .ref S)] dX4_listChoices_6 rfl (by decide) rfl ?_
  refine J_lv [1, 2, 3, 0] rfl ?_
  refine J_loop (pc := 7) (fun t2 : Int32 × Mm => [(0, .ref 34), (1, .ref Q), (2, .ref S), (3, .int t2.1)]) (fun t2 => t2.2) (fun _ => 48) (fun e3 => [(0, .ref 34), (1, .ref Q), (2, .ref S)]) (fun _ => []) (fun e3 => e3) ?_ (fun t2 k1 hBt2 hXt2 => ?_) F ((0, m1))
  · refine fun e3 => ?_
    refine J_iconst 0 dX4_listChoices_48 (by decide) ?_
    refine J_istore_n 3 [(3, .int 0), (0, .ref 34), (1, .ref Q), (2, .ref S)] dX4_listChoices_49 rfl (by decide) rfl ?_
    refine J_lv [1, 2, 3, 0] rfl ?_
    refine J_loop (pc := 50) (fun t9 : Int32 × Mm => [(0, .ref 34), (1, .ref Q), (2, .ref S), (3, .int t9.1)]) (fun t9 => t9.2) (fun _ => 93) (fun e10 => []) (fun _ => []) (fun e10 => e10) ?_ (fun t9 k1 hBt9 hXt9 => ?_) F ((0, e3))
    · refine fun e10 => ?_
      exact J_vretV dX4_listChoices_93 rfl rfl
    · unfold b_X4_listChoices_50
      refine J_iload_n 3 3 t9.1 dX4_listChoices_50 rfl rfl ?_
      refine J_aload_n 1 1 Q dX4_listChoices_51 rfl rfl ?_
      refine J_getI Q 1 2 dX4_listChoices_52 fl_4_76 (layc_Pl_0 hQ) rfl (lt_Pl_0 hQ hn) ?_
      refine J_icmp_ge 93 dX4_listChoices_55 (by decide) ?_ ?_
      · exact J_lv [] rfl (hXt9 t9.2)
      · refine J_aload_n 2 2 S dX4_listChoices_58 rfl rfl ?_
        refine J_getR S 7 7 (S + 4) dX4_listChoices_59 fl_4_79 (layc_St_0 hS) rfl (lt_St_0 hS hn) (rf_St_0_7 hS) ?_
        refine J_iload_n 3 3 t9.1 dX4_listChoices_62 rfl rfl ?_
        refine J_iald (S + 4) 4 dX4_listChoices_63 (lay_St_4 hS) (lt_St_4 hS hn) (fun x11 => ?_)
        refine J_seqJ 87 (fun y12 : Mm => [(0, .ref 34), (1, .ref Q), (2, .ref S), (3, .int t9.1)]) (fun y12 => []) (fun y12 => y12) (fun y12 => ?_) (fun k1 hEy12 => ?_)
        · refine J_iinc 3 3 [(3, .int (t9.1 + 1)), (0, .ref 34), (1, .ref Q), (2, .ref S)] t9.1 (t9.1 + 1) dX4_listChoices_87 rfl rfl (by decide) rfl ?_
          refine J_goto 50 dX4_listChoices_90 (by decide) ?_
          exact J_lv [1, 2, 3, 0] rfl (hBt9 (t9.1 + 1, y12))
        · refine J_if_ne 87 dX4_listChoices_64 (by decide) ?_ ?_
          · exact J_lv [0, 1, 2, 3] rfl (hEy12 t9.2)
          · refine J_aload_n 0 0 34 dX4_listChoices_67 rfl rfl ?_
            refine J_getR 34 4 2 35 dX4_listChoices_68 fl_4_9 rfl rfl (Nat.lt_of_lt_of_le (Nat.le_of_ble_eq_true rfl) hn) rfl ?_
            refine J_aload_n 0 0 34 dX4_listChoices_71 rfl rfl ?_
            refine J_dup dX4_listChoices_72 rfl ?_
            refine J_getI 34 4 6 dX4_listChoices_73 fl_4_32 rfl rfl (Nat.lt_of_lt_of_le (Nat.le_of_ble_eq_true rfl) hn) ?_
            refine J_let (fun x13 => ?_)
            refine J_dup_x1 dX4_listChoices_76 rfl rfl ?_
            refine J_iconst 1 dX4_listChoices_77 (by decide) ?_
            refine J_iadd dX4_listChoices_78 ?_
            refine J_putI 34 4 6 dX4_listChoices_79 fl_4_32 rfl rfl (Nat.lt_of_lt_of_le (Nat.le_of_ble_eq_true rfl) hn) rfl rfl rfl (fun m14 => ?_)
            refine J_bipush 20 dX4_listChoices_82 (by decide) ?_
            refine J_iload_n 3 3 t9.1 dX4_listChoices_84 rfl rfl ?_
            refine J_iadd dX4_listChoices_85 ?_
            refine J_iast 35 14 dX4_listChoices_86 rfl (Nat.lt_of_lt_of_le (Nat.le_of_ble_eq_true rfl) hn) (fun m15 => ?_)
            exact J_lv [0, 1, 2, 3] rfl (hEy12 m15)
  · unfold b_X4_listChoices_7
    refine J_iload_n 3 3 t2.1 dX4_listChoices_7 rfl rfl ?_
    refine J_aload_n 1 1 Q dX4_listChoices_8 rfl rfl ?_
    refine J_getI Q 1 1 dX4_listChoices_9 fl_4_68 (layc_Pl_0 hQ) rfl (lt_Pl_0 hQ hn) ?_
    refine J_icmp_ge 48 dX4_listChoices_12 (by decide) ?_ ?_
    · exact J_lv [0, 1, 2] rfl (hXt2 t2.2)
    · refine J_aload_n 2 2 S dX4_listChoices_15 rfl rfl ?_
      refine J_getR S 7 6 (S + 3) dX4_listChoices_16 fl_4_73 (layc_St_0 hS) rfl (lt_St_0 hS hn) (rf_St_0_6 hS) ?_
      refine J_iload_n 3 3 t2.1 dX4_listChoices_19 rfl rfl ?_
      refine J_iald (S + 3) 10 dX4_listChoices_20 (lay_St_3 hS) (lt_St_3 hS hn) (fun x4 => ?_)
      refine J_iconst 1 dX4_listChoices_21 (by decide) ?_
      refine J_seqJ 42 (fun y5 : Mm => [(0, .ref 34), (1, .ref Q), (2, .ref S), (3, .int t2.1)]) (fun y5 => []) (fun y5 => y5) (fun y5 => ?_) (fun k1 hEy5 => ?_)
      · refine J_iinc 3 3 [(3, .int (t2.1 + 1)), (0, .ref 34), (1, .ref Q), (2, .ref S)] t2.1 (t2.1 + 1) dX4_listChoices_42 rfl rfl (by decide) rfl ?_
        refine J_goto 7 dX4_listChoices_45 (by decide) ?_
        exact J_lv [1, 2, 3, 0] rfl (hBt2 (t2.1 + 1, y5))
      · refine J_icmp_ne 42 dX4_listChoices_22 (by decide) ?_ ?_
        · exact J_lv [0, 1, 2, 3] rfl (hEy5 t2.2)
        · refine J_aload_n 0 0 34 dX4_listChoices_25 rfl rfl ?_
          refine J_getR 34 4 2 35 dX4_listChoices_26 fl_4_9 rfl rfl (Nat.lt_of_lt_of_le (Nat.le_of_ble_eq_true rfl) hn) rfl ?_
          refine J_aload_n 0 0 34 dX4_listChoices_29 rfl rfl ?_
          refine J_dup dX4_listChoices_30 rfl ?_
          refine J_getI 34 4 6 dX4_listChoices_31 fl_4_32 rfl rfl (Nat.lt_of_lt_of_le (Nat.le_of_ble_eq_true rfl) hn) ?_
          refine J_let (fun x6 => ?_)
          refine J_dup_x1 dX4_listChoices_34 rfl rfl ?_
          refine J_iconst 1 dX4_listChoices_35 (by decide) ?_
          refine J_iadd dX4_listChoices_36 ?_
          refine J_putI 34 4 6 dX4_listChoices_37 fl_4_32 rfl rfl (Nat.lt_of_lt_of_le (Nat.le_of_ble_eq_true rfl) hn) rfl rfl rfl (fun m7 => ?_)
          refine J_iload_n 3 3 t2.1 dX4_listChoices_40 rfl rfl ?_
          refine J_iast 35 14 dX4_listChoices_41 rfl (Nat.lt_of_lt_of_le (Nat.le_of_ble_eq_true rfl) hn) (fun m8 => ?_)
          exact J_lv [0, 1, 2, 3] rfl (hEy5 m8)
def f_X7_copyWithoutOrders (m : Mm) (S : Nat) (S2 : Nat) : Option (Mm) :=
  letv (up2 m S 0 (m S2 0)) fun m1 => letv (up2 m1 S 1 (m1 S2 1)) fun m2 => letv (up2 m2 S 2 (m2 S2 2)) fun m3 => (acopy m3 (S2 + 1) 8 0 (S + 1) 8 0 8).bind fun m4 => (acopy m4 (S2 + 2) 8 0 (S + 2) 8 0 8).bind fun m5 => (acopy m5 (S2 + 3) 10 0 (S + 3) 10 0 10).bind fun m6 => (acopy m6 (S2 + 4) 4 0 (S + 4) 4 0 4).bind fun m7 => (acopy m7 (S2 + 5) 3 0 (S + 5) 3 0 3).bind fun m8 => letv (up2 m8 (S + 6) 0 0) fun m9 => some m9
set_option maxHeartbeats 4000000 in
set_option maxRecDepth 100000 in
theorem ct_X7_copyWithoutOrders (F : Nat) {n : Nat} (hn : 113 ≤ n) (P D : Nat) (T : Option Nat) (m : Mm) (S : Nat) (hS : isSt S) (S2 : Nat) (hS2 : isSt S2) : Ct yX7_copyWithoutOrders cX7_copyWithoutOrders 2 none 1 26 [.ref S, .ref S2] n n m (RF P D T) (rV (RF P D T) (f_X7_copyWithoutOrders m S S2)) := by
  refine Ct.ofV (own := RX7) (nm := "copyWithoutOrders") [(0, .ref S), (1, .ref S2)] (by decide) (Nat.le_of_ble_eq_true rfl) rfl rfl rfl ?_
  unfold f_X7_copyWithoutOrders
  refine J_aload_n 0 0 S dX7_copyWithoutOrders_0 rfl rfl ?_
  refine J_aload_n 1 1 S2 dX7_copyWithoutOrders_1 rfl rfl ?_
  refine J_getI S2 7 0 dX7_copyWithoutOrders_2 fl_7_41 (layc_St_0 hS2) rfl (lt_St_0 hS2 hn) ?_
  refine J_putI S 7 0 dX7_copyWithoutOrders_5 fl_7_41 (layc_St_0 hS) rfl (lt_St_0 hS hn) rfl rfl rfl (fun m1 => ?_)
  refine J_aload_n 0 0 S dX7_copyWithoutOrders_8 rfl rfl ?_
  refine J_aload_n 1 1 S2 dX7_copyWithoutOrders_9 rfl rfl ?_
  refine J_getI S2 7 1 dX7_copyWithoutOrders_10 fl_7_83 (layc_St_0 hS2) rfl (lt_St_0 hS2 hn) ?_
  refine J_putI S 7 1 dX7_copyWithoutOrders_13 fl_7_83 (layc_St_0 hS) rfl (lt_St_0 hS hn) rfl rfl rfl (fun m2 => ?_)
  refine J_aload_n 0 0 S dX7_copyWithoutOrders_16 rfl rfl ?_
  refine J_aload_n 1 1 S2 dX7_copyWithoutOrders_17 rfl rfl ?_
  refine J_getI S2 7 2 dX7_copyWithoutOrders_18 fl_7_86 (layc_St_0 hS2) rfl (lt_St_0 hS2 hn) ?_
  refine J_putI S 7 2 dX7_copyWithoutOrders_21 fl_7_86 (layc_St_0 hS) rfl (lt_St_0 hS hn) rfl rfl rfl (fun m3 => ?_)
  refine J_aload_n 1 1 S2 dX7_copyWithoutOrders_24 rfl rfl ?_
  refine J_getR S2 7 4 (S2 + 1) dX7_copyWithoutOrders_25 fl_7_9 (layc_St_0 hS2) rfl (lt_St_0 hS2 hn) (rf_St_0_4 hS2) ?_
  refine J_iconst 0 dX7_copyWithoutOrders_28 (by decide) ?_
  refine J_aload_n 0 0 S dX7_copyWithoutOrders_29 rfl rfl ?_
  refine J_getR S 7 4 (S + 1) dX7_copyWithoutOrders_30 fl_7_9 (layc_St_0 hS) rfl (lt_St_0 hS hn) (rf_St_0_4 hS) ?_
  refine J_iconst 0 dX7_copyWithoutOrders_33 (by decide) ?_
  refine J_bipush 8 dX7_copyWithoutOrders_34 (by decide) ?_
  refine J_acopy (S2 + 1) 8 (S + 1) 8 dX7_copyWithoutOrders_36 lk_7_50 (lay_St_1 hS2) (lay_St_1 hS) (lt_St_1 hS2 hn) (lt_St_1 hS hn) (by decide) (Nat.le_of_ble_eq_true rfl) (fun m4 => ?_)
  refine J_aload_n 1 1 S2 dX7_copyWithoutOrders_39 rfl rfl ?_
  refine J_getR S2 7 5 (S2 + 2) dX7_copyWithoutOrders_40 fl_7_15 (layc_St_0 hS2) rfl (lt_St_0 hS2 hn) (rf_St_0_5 hS2) ?_
  refine J_iconst 0 dX7_copyWithoutOrders_43 (by decide) ?_
  refine J_aload_n 0 0 S dX7_copyWithoutOrders_44 rfl rfl ?_
  refine J_getR S 7 5 (S + 2) dX7_copyWithoutOrders_45 fl_7_15 (layc_St_0 hS) rfl (lt_St_0 hS hn) (rf_St_0_5 hS) ?_
  refine J_iconst 0 dX7_copyWithoutOrders_48 (by decide) ?_
  refine J_bipush 8 dX7_copyWithoutOrders_49 (by decide) ?_
  refine J_acopy (S2 + 2) 8 (S + 2) 8 dX7_copyWithoutOrders_51 lk_7_50 (lay_St_2 hS2) (lay_St_2 hS) (lt_St_2 hS2 hn) (lt_St_2 hS hn) (by decide) (Nat.le_of_ble_eq_true rfl) (fun m5 => ?_)
  refine J_aload_n 1 1 S2 dX7_copyWithoutOrders_54 rfl rfl ?_
  refine J_getR S2 7 6 (S2 + 3) dX7_copyWithoutOrders_55 fl_7_18 (layc_St_0 hS2) rfl (lt_St_0 hS2 hn) (rf_St_0_6 hS2) ?_
  refine J_iconst 0 dX7_copyWithoutOrders_58 (by decide) ?_
  refine J_aload_n 0 0 S dX7_copyWithoutOrders_59 rfl rfl ?_
  refine J_getR S 7 6 (S + 3) dX7_copyWithoutOrders_60 fl_7_18 (layc_St_0 hS) rfl (lt_St_0 hS hn) (rf_St_0_6 hS) ?_
  refine J_iconst 0 dX7_copyWithoutOrders_63 (by decide) ?_
  refine J_bipush 10 dX7_copyWithoutOrders_64 (by decide) ?_
  refine J_acopy (S2 + 3) 10 (S + 3) 10 dX7_copyWithoutOrders_66 lk_7_50 (lay_St_3 hS2) (lay_St_3 hS) (lt_St_3 hS2 hn) (lt_St_3 hS hn) (by decide) (Nat.le_of_ble_eq_true rfl) (fun m6 => ?_)
  refine J_aload_n 1 1 S2 dX7_copyWithoutOrders_69 rfl rfl ?_
  refine J_getR S2 7 7 (S2 + 4) dX7_copyWithoutOrders_70 fl_7_21 (layc_St_0 hS2) rfl (lt_St_0 hS2 hn) (rf_St_0_7 hS2) ?_
  refine J_iconst 0 dX7_copyWithoutOrders_73 (by decide) ?_
  refine J_aload_n 0 0 S dX7_copyWithoutOrders_74 rfl rfl ?_
  refine J_getR S 7 7 (S + 4) dX7_copyWithoutOrders_75 fl_7_21 (layc_St_0 hS) rfl (lt_St_0 hS hn) (rf_St_0_7 hS) ?_
  refine J_iconst 0 dX7_copyWithoutOrders_78 (by decide) ?_
  refine J_iconst 4 dX7_copyWithoutOrders_79 (by decide) ?_
  refine J_acopy (S2 + 4) 4 (S + 4) 4 dX7_copyWithoutOrders_80 lk_7_50 (lay_St_4 hS2) (lay_St_4 hS) (lt_St_4 hS2 hn) (lt_St_4 hS hn) (by decide) (Nat.le_of_ble_eq_true rfl) (fun m7 => ?_)
  refine J_aload_n 1 1 S2 dX7_copyWithoutOrders_83 rfl rfl ?_
  refine J_getR S2 7 8 (S2 + 5) dX7_copyWithoutOrders_84 fl_7_24 (layc_St_0 hS2) rfl (lt_St_0 hS2 hn) (rf_St_0_8 hS2) ?_
  refine J_iconst 0 dX7_copyWithoutOrders_87 (by decide) ?_
  refine J_aload_n 0 0 S dX7_copyWithoutOrders_88 rfl rfl ?_
  refine J_getR S 7 8 (S + 5) dX7_copyWithoutOrders_89 fl_7_24 (layc_St_0 hS) rfl (lt_St_0 hS hn) (rf_St_0_8 hS) ?_
  refine J_iconst 0 dX7_copyWithoutOrders_92 (by decide) ?_
  refine J_iconst 3 dX7_copyWithoutOrders_93 (by decide) ?_
  refine J_acopy (S2 + 5) 3 (S + 5) 3 dX7_copyWithoutOrders_94 lk_7_50 (lay_St_5 hS2) (lay_St_5 hS) (lt_St_5 hS2 hn) (lt_St_5 hS hn) (by decide) (Nat.le_of_ble_eq_true rfl) (fun m8 => ?_)
  refine J_aload_n 0 0 S dX7_copyWithoutOrders_97 rfl rfl ?_
  refine J_getR S 7 9 (S + 6) dX7_copyWithoutOrders_98 fl_7_30 (layc_St_0 hS) rfl (lt_St_0 hS hn) (rf_St_0_9 hS) ?_
  refine J_iconst 0 dX7_copyWithoutOrders_101 (by decide) ?_
  refine J_putI (S + 6) 0 0 dX7_copyWithoutOrders_102 fl_7_68 (layc_St_6 hS) rfl (lt_St_6 hS hn) rfl rfl rfl (fun m9 => ?_)
  exact J_vretV dX7_copyWithoutOrders_105 rfl rfl
def f_X7_canBegin (F : Nat) (m : Mm) (S : Nat) (Q : Nat) (a2 : Int32) (a3 : Int32) : Option (Int32) :=
  (f_X0_tally F m (S + 6) 1).bind fun x1 => (ald m (Q + 16) 5 0).bind fun x3 => if x1 < x3 then (if a2 = 0 then ((ald m (S + 3) 10 a3).bind fun x4 => if x4 = (1 : Int32) then ((f_X0_isOnDoor F m (S + 6) a3).bind fun x5 => if x5 = 0 then (some 1) else (some 0)) else (some 0)) else (if a2 = 1 then ((ald m (S + 3) 10 a3).bind fun x7 => if x7 = 0 then ((f_X0_isOnDoor F m (S + 6) a3).bind fun x8 => if x8 = 0 then (some 1) else (some 0)) else (some 0)) else (if a2 = 2 then ((ald m (S + 4) 4 a3).bind fun x10 => if x10 = 0 then ((f_X0_isOnHole F m (S + 6) a3).bind fun x11 => if x11 = 0 then (some 1) else (some 0)) else (some 0)) else (some 1)))) else (some 0)
set_option maxHeartbeats 4000000 in
set_option maxRecDepth 100000 in
theorem ct_X7_canBegin (F : Nat) {n : Nat} (hn : 113 ≤ n) (P D : Nat) (T : Option Nat) (m : Mm) (S : Nat) (hS : isSt S) (Q : Nat) (hQ : isPl Q) (a2 : Int32) (a3 : Int32) : Ct yX7_canBegin cX7_canBegin 4 (some .boolean) 1 23 [.ref S, .ref Q, .int a2, .int a3] n n m (RF P D T) (rP m (RF P D T) (f_X7_canBegin F m S Q a2 a3)) := by
  refine Ct.ofP (own := RX7) (nm := "canBegin") [(0, .ref S), (1, .ref Q), (2, .int a2), (3, .int a3)] (by decide) (Nat.le_of_ble_eq_true rfl) rfl rfl rfl ?_
  unfold f_X7_canBegin
  refine J_aload_n 0 0 S dX7_canBegin_0 rfl rfl ?_
  refine J_getR S 7 9 (S + 6) dX7_canBegin_1 fl_7_30 (layc_St_0 hS) rfl (lt_St_0 hS hn) (rf_St_0_9 hS) ?_
  refine J_iconst 1 dX7_canBegin_4 (by decide) ?_
  refine J_callVP (S + 6) 0 1 [.int 1] dX7_canBegin_5 mv_X0_tally mv_X0_tallyv lk_7_182 (ct_X0_tally F hn P D T m (S + 6) (or_St hS) 1) rfl (layc_St_6 hS) (by decide) rfl (lt_St_6 hS hn) ⟨by decide, by decide⟩ (Nat.le_of_ble_eq_true rfl) (fun x1 => ?_)
  refine J_aload_n 1 1 Q dX7_canBegin_8 rfl rfl ?_
  refine J_getR Q 1 19 (Q + 16) dX7_canBegin_9 fl_7_186 (layc_Pl_0 hQ) rfl (lt_Pl_0 hQ hn) (rf_Pl_0_19 hQ) ?_
  refine J_iconst 0 dX7_canBegin_12 (by decide) ?_
  refine J_iald (Q + 16) 5 dX7_canBegin_13 (lay_Pl_16 hQ) (lt_Pl_16 hQ hn) (fun x3 => ?_)
  refine J_icmp_lt 19 dX7_canBegin_14 (by decide) ?_ ?_
  · refine J_iload_n 2 2 a2 dX7_canBegin_19 rfl rfl ?_
    refine J_split (c1 := 0) (fun hs20_0 => ?_) (fun hs20_0 => ?_)
    · refine J_tsIn 48 hs20_0 dX7_canBegin_20 (by decide) (by decide) rfl (by decide) ?_
      refine J_aload_n 0 0 S dX7_canBegin_48 rfl rfl ?_
      refine J_getR S 7 6 (S + 3) dX7_canBegin_49 fl_7_18 (layc_St_0 hS) rfl (lt_St_0 hS hn) (rf_St_0_6 hS) ?_
      refine J_iload_n 3 3 a3 dX7_canBegin_52 rfl rfl ?_
      refine J_iald (S + 3) 10 dX7_canBegin_53 (lay_St_3 hS) (lt_St_3 hS hn) (fun x4 => ?_)
      refine J_iconst 1 dX7_canBegin_54 (by decide) ?_
      refine J_icmp_ne 73 dX7_canBegin_55 (by decide) ?_ ?_
      · refine J_iconst 0 dX7_canBegin_73 (by decide) ?_
        exact J_zretP dX7_canBegin_74 rfl rfl rfl
      · refine J_aload_n 0 0 S dX7_canBegin_58 rfl rfl ?_
        refine J_getR S 7 9 (S + 6) dX7_canBegin_59 fl_7_30 (layc_St_0 hS) rfl (lt_St_0 hS hn) (rf_St_0_9 hS) ?_
        refine J_iload_n 3 3 a3 dX7_canBegin_62 rfl rfl ?_
        refine J_callVP (S + 6) 0 1 [.int a3] dX7_canBegin_63 mv_X0_isOnDoor mv_X0_isOnDoorv lk_7_189 (ct_X0_isOnDoor F hn P D T m (S + 6) (or_St hS) a3) rfl (layc_St_6 hS) (by decide) rfl (lt_St_6 hS hn) ⟨by decide, by decide⟩ (Nat.le_of_ble_eq_true rfl) (fun x5 => ?_)
        refine J_if_ne 73 dX7_canBegin_66 (by decide) ?_ ?_
        · refine J_iconst 0 dX7_canBegin_73 (by decide) ?_
          exact J_zretP dX7_canBegin_74 rfl rfl rfl
        · refine J_iconst 1 dX7_canBegin_69 (by decide) ?_
          refine J_goto 74 dX7_canBegin_70 (by decide) ?_
          exact J_zretP dX7_canBegin_74 rfl rfl rfl
    · refine J_split (c1 := 1) (fun hs20_1 => ?_) (fun hs20_1 => ?_)
      · refine J_tsIn 75 hs20_1 dX7_canBegin_20 (by decide) (by decide) rfl (by decide) ?_
        refine J_aload_n 0 0 S dX7_canBegin_75 rfl rfl ?_
        refine J_getR S 7 6 (S + 3) dX7_canBegin_76 fl_7_18 (layc_St_0 hS) rfl (lt_St_0 hS hn) (rf_St_0_6 hS) ?_
        refine J_iload_n 3 3 a3 dX7_canBegin_79 rfl rfl ?_
        refine J_iald (S + 3) 10 dX7_canBegin_80 (lay_St_3 hS) (lt_St_3 hS hn) (fun x7 => ?_)
        refine J_if_ne 99 dX7_canBegin_81 (by decide) ?_ ?_
        · refine J_iconst 0 dX7_canBegin_99 (by decide) ?_
          exact J_zretP dX7_canBegin_100 rfl rfl rfl
        · refine J_aload_n 0 0 S dX7_canBegin_84 rfl rfl ?_
          refine J_getR S 7 9 (S + 6) dX7_canBegin_85 fl_7_30 (layc_St_0 hS) rfl (lt_St_0 hS hn) (rf_St_0_9 hS) ?_
          refine J_iload_n 3 3 a3 dX7_canBegin_88 rfl rfl ?_
          refine J_callVP (S + 6) 0 1 [.int a3] dX7_canBegin_89 mv_X0_isOnDoor mv_X0_isOnDoorv lk_7_189 (ct_X0_isOnDoor F hn P D T m (S + 6) (or_St hS) a3) rfl (layc_St_6 hS) (by decide) rfl (lt_St_6 hS hn) ⟨by decide, by decide⟩ (Nat.le_of_ble_eq_true rfl) (fun x8 => ?_)
          refine J_if_ne 99 dX7_canBegin_92 (by decide) ?_ ?_
          · refine J_iconst 0 dX7_canBegin_99 (by decide) ?_
            exact J_zretP dX7_canBegin_100 rfl rfl rfl
          · refine J_iconst 1 dX7_canBegin_95 (by decide) ?_
            refine J_goto 100 dX7_canBegin_96 (by decide) ?_
            exact J_zretP dX7_canBegin_100 rfl rfl rfl
      · refine J_split (c1 := 2) (fun hs20_2 => ?_) (fun hs20_2 => ?_)
        · refine J_tsIn 101 hs20_2 dX7_canBegin_20 (by decide) (by decide) rfl (by decide) ?_
          refine J_aload_n 0 0 S dX7_canBegin_101 rfl rfl ?_
          refine J_getR S 7 7 (S + 4) dX7_canBegin_102 fl_7_21 (layc_St_0 hS) rfl (lt_St_0 hS hn) (rf_St_0_7 hS) ?_
          refine J_iload_n 3 3 a3 dX7_canBegin_105 rfl rfl ?_
          refine J_iald (S + 4) 4 dX7_canBegin_106 (lay_St_4 hS) (lt_St_4 hS hn) (fun x10 => ?_)
          refine J_if_ne 125 dX7_canBegin_107 (by decide) ?_ ?_
          · refine J_iconst 0 dX7_canBegin_125 (by decide) ?_
            exact J_zretP dX7_canBegin_126 rfl rfl rfl
          · refine J_aload_n 0 0 S dX7_canBegin_110 rfl rfl ?_
            refine J_getR S 7 9 (S + 6) dX7_canBegin_111 fl_7_30 (layc_St_0 hS) rfl (lt_St_0 hS hn) (rf_St_0_9 hS) ?_
            refine J_iload_n 3 3 a3 dX7_canBegin_114 rfl rfl ?_
            refine J_callVP (S + 6) 0 1 [.int a3] dX7_canBegin_115 mv_X0_isOnHole mv_X0_isOnHolev lk_7_193 (ct_X0_isOnHole F hn P D T m (S + 6) (or_St hS) a3) rfl (layc_St_6 hS) (by decide) rfl (lt_St_6 hS hn) ⟨by decide, by decide⟩ (Nat.le_of_ble_eq_true rfl) (fun x11 => ?_)
            refine J_if_ne 125 dX7_canBegin_118 (by decide) ?_ ?_
            · refine J_iconst 0 dX7_canBegin_125 (by decide) ?_
              exact J_zretP dX7_canBegin_126 rfl rfl rfl
            · refine J_iconst 1 dX7_canBegin_121 (by decide) ?_
              refine J_goto 126 dX7_canBegin_122 (by decide) ?_
              exact J_zretP dX7_canBegin_126 rfl rfl rfl
        · refine J_tsOut 127 dX7_canBegin_20 (ts_out [0, 1, 2] (by decide) (by simp only [List.mem_cons, List.not_mem_nil, or_false, forall_eq_or_imp, forall_eq]; exact ⟨hs20_0, hs20_1, hs20_2⟩)) (by decide) ?_
          refine J_iconst 1 dX7_canBegin_127 (by decide) ?_
          exact J_zretP dX7_canBegin_128 rfl rfl rfl
  · refine J_iconst 0 dX7_canBegin_17 (by decide) ?_
    exact J_zretP dX7_canBegin_18 rfl rfl rfl

theorem fl_8_10 : FL RX8 10 8 0 := ⟨by decide, by decide, tb 421 (by decide +kernel) rfl⟩
theorem fl_8_136 : FL RX8 136 1 8 := ⟨by decide, by decide, tb 288 (by decide +kernel) rfl⟩
theorem fl_8_139 : FL RX8 139 1 9 := ⟨by decide, by decide, tb 292 (by decide +kernel) rfl⟩
theorem fl_8_142 : FL RX8 142 1 10 := ⟨by decide, by decide, tb 296 (by decide +kernel) rfl⟩
theorem fl_8_145 : FL RX8 145 1 11 := ⟨by decide, by decide, tb 300 (by decide +kernel) rfl⟩
theorem fl_8_151 : FL RX8 151 7 6 := ⟨by decide, by decide, tb 155 (by decide +kernel) rfl⟩
theorem fl_8_154 : FL RX8 154 7 9 := ⟨by decide, by decide, tb 163 (by decide +kernel) rfl⟩
theorem fl_8_166 : FL RX8 166 1 14 := ⟨by decide, by decide, tb 311 (by decide +kernel) rfl⟩
theorem fl_8_237 : FL RX8 237 0 0 := ⟨by decide, by decide, tb 84 (by decide +kernel) rfl⟩
theorem fl_8_290 : FL RX8 290 1 1 := ⟨by decide, by decide, tb 261 (by decide +kernel) rfl⟩
theorem fl_8_353 : FL RX8 353 1 2 := ⟨by decide, by decide, tb 266 (by decide +kernel) rfl⟩
theorem fl_8_356 : FL RX8 356 1 3 := ⟨by decide, by decide, tb 270 (by decide +kernel) rfl⟩
theorem fl_8_359 : FL RX8 359 6 0 := ⟨by decide, by decide, tb 237 (by decide +kernel) rfl⟩
theorem fl_8_360 : FL RX8 360 2 1 := ⟨by decide, by decide, tb 35 (by decide +kernel) rfl⟩
theorem fl_8_363 : FL RX8 363 5 1 := ⟨by decide, by decide, tb 382 (by decide +kernel) rfl⟩
theorem fl_8_51 : FL RX8 51 8 7 := ⟨by decide, by decide, tb 428 (by decide +kernel) rfl⟩
theorem fl_8_57 : FL RX8 57 8 8 := ⟨by decide, by decide, tb 429 (by decide +kernel) rfl⟩
theorem fl_8_94 : FL RX8 94 8 11 := ⟨by decide, by decide, tb 432 (by decide +kernel) rfl⟩
theorem lk_8_133 : Cond.methodLink RX8 133 yX8_isDoor ∈ TBg := tb 626 (by decide +kernel) rfl
theorem lk_8_158 : Cond.methodLink RX8 158 yX0_isOnDoor ∈ TBg := tb 630 (by decide +kernel) rfl
theorem lk_8_306 : Cond.methodLink RX8 306 yJ6_bitCount_0f7a4 ∈ TBg := tb 880 (by decide +kernel) rfl
theorem lk_8_314 : Cond.methodLink RX8 314 yX8_openDoors ∈ TBg := tb 898 (by decide +kernel) rfl
theorem lk_8_317 : Cond.methodLink RX8 317 yX8_reachedFrom ∈ TBg := tb 902 (by decide +kernel) rfl
theorem lk_8_320 : Cond.methodLink RX8 320 yX8_holdsWithHoles ∈ TBg := tb 910 (by decide +kernel) rfl
theorem lk_8_323 : Cond.methodLink RX8 323 yX8_fewestDoorsAround ∈ TBg := tb 914 (by decide +kernel) rfl
theorem lk_8_79 : Cond.methodLink RX8 79 yX2_append ∈ TBg := tb 465 (by decide +kernel) rfl
theorem lk_8_83 : Cond.methodLink RX8 83 yX2_cut ∈ TBg := tb 473 (by decide +kernel) rfl
theorem mv_X2_append : MV yX2_append cX2_append 4 (some .int) 1 := ⟨tb 468 (by decide +kernel) rfl, tb 2 (by decide +kernel) rfl, by decide +kernel⟩
theorem mv_X2_appendv : Cond.instanceMethod yX2_append ∈ TBg ∧ Cond.selects yX2_append.cls yX2_append yX2_append ∈ TBg := ⟨tb 466 (by decide +kernel) rfl, tb 467 (by decide +kernel) rfl⟩
theorem mv_X2_cut : MV yX2_cut cX2_cut 3 (some .int) 1 := ⟨tb 476 (by decide +kernel) rfl, tb 2 (by decide +kernel) rfl, by decide +kernel⟩
theorem mv_X2_cutv : Cond.instanceMethod yX2_cut ∈ TBg ∧ Cond.selects yX2_cut.cls yX2_cut yX2_cut ∈ TBg := ⟨tb 474 (by decide +kernel) rfl, tb 475 (by decide +kernel) rfl⟩
theorem mv_X8_fewestDoorsAround : MV yX8_fewestDoorsAround cX8_fewestDoorsAround 7 (some .int) 2 := ⟨tb 917 (by decide +kernel) rfl, tb 1 (by decide +kernel) rfl, by decide +kernel⟩
theorem mv_X8_fewestDoorsAroundv : Cond.instanceMethod yX8_fewestDoorsAround ∈ TBg ∧ Cond.selects yX8_fewestDoorsAround.cls yX8_fewestDoorsAround yX8_fewestDoorsAround ∈ TBg := ⟨tb 916 (by decide +kernel) rfl, tbP (k := 13) 40 (by decide +kernel) rfl⟩
theorem mv_X8_holdsWithHoles : MV yX8_holdsWithHoles cX8_holdsWithHoles 3 (some .int) 0 := ⟨tb 913 (by decide +kernel) rfl, tb 1 (by decide +kernel) rfl, by decide +kernel⟩
theorem mv_X8_holdsWithHolesv : Cond.instanceMethod yX8_holdsWithHoles ∈ TBg ∧ Cond.selects yX8_holdsWithHoles.cls yX8_holdsWithHoles yX8_holdsWithHoles ∈ TBg := ⟨tb 912 (by decide +kernel) rfl, tbP (k := 13) 39 (by decide +kernel) rfl⟩
theorem mv_X8_isDoor : MV yX8_isDoor cX8_isDoor 2 (some .boolean) 1 := ⟨tb 629 (by decide +kernel) rfl, tb 1 (by decide +kernel) rfl, by decide +kernel⟩
theorem mv_X8_isDoorv : Cond.instanceMethod yX8_isDoor ∈ TBg ∧ Cond.selects yX8_isDoor.cls yX8_isDoor yX8_isDoor ∈ TBg := ⟨tb 628 (by decide +kernel) rfl, tbP (k := 13) 15 (by decide +kernel) rfl⟩
theorem mv_X8_openDoors : MV yX8_openDoors cX8_openDoors 3 (some .int) 0 := ⟨tb 901 (by decide +kernel) rfl, tb 1 (by decide +kernel) rfl, by decide +kernel⟩
theorem mv_X8_openDoorsv : Cond.instanceMethod yX8_openDoors ∈ TBg ∧ Cond.selects yX8_openDoors.cls yX8_openDoors yX8_openDoors ∈ TBg := ⟨tb 900 (by decide +kernel) rfl, tbP (k := 13) 37 (by decide +kernel) rfl⟩
theorem mv_X8_reachedFrom : MV yX8_reachedFrom cX8_reachedFrom 7 (some .int) 2 := ⟨tb 905 (by decide +kernel) rfl, tb 1 (by decide +kernel) rfl, by decide +kernel⟩
theorem mv_X8_reachedFromv : Cond.instanceMethod yX8_reachedFrom ∈ TBg ∧ Cond.selects yX8_reachedFrom.cls yX8_reachedFrom yX8_reachedFrom ∈ TBg := ⟨tb 904 (by decide +kernel) rfl, tbP (k := 13) 38 (by decide +kernel) rfl⟩
theorem dX8_count_0 : decode cX8_count 0 = .ok (.iload_n 1, 1) := by decide +kernel
theorem dX8_count_1 : decode cX8_count 1 = .ok (.tableswitch 150 0 8 #[51, 59, 67, 75, 83, 94, 124, 132, 140], 51) := by decide +kernel
theorem dX8_count_52 : decode cX8_count 52 = .ok (.aload_n 0, 1) := by decide +kernel
theorem dX8_count_53 : decode cX8_count 53 = .ok (.getfield 64, 3) := by decide +kernel
theorem dX8_count_56 : decode cX8_count 56 = .ok (.getfield 297, 3) := by decide +kernel
theorem dX8_count_59 : decode cX8_count 59 = .ok (.ireturn, 1) := by decide +kernel
theorem dX8_count_60 : decode cX8_count 60 = .ok (.aload_n 0, 1) := by decide +kernel
theorem dX8_count_61 : decode cX8_count 61 = .ok (.getfield 64, 3) := by decide +kernel
theorem dX8_count_64 : decode cX8_count 64 = .ok (.getfield 290, 3) := by decide +kernel
theorem dX8_count_67 : decode cX8_count 67 = .ok (.ireturn, 1) := by decide +kernel
theorem dX8_count_68 : decode cX8_count 68 = .ok (.aload_n 0, 1) := by decide +kernel
theorem dX8_count_69 : decode cX8_count 69 = .ok (.getfield 64, 3) := by decide +kernel
theorem dX8_count_72 : decode cX8_count 72 = .ok (.getfield 353, 3) := by decide +kernel
theorem dX8_count_75 : decode cX8_count 75 = .ok (.ireturn, 1) := by decide +kernel
theorem dX8_count_76 : decode cX8_count 76 = .ok (.aload_n 0, 1) := by decide +kernel
theorem dX8_count_77 : decode cX8_count 77 = .ok (.getfield 64, 3) := by decide +kernel
theorem dX8_count_80 : decode cX8_count 80 = .ok (.getfield 356, 3) := by decide +kernel
theorem dX8_count_83 : decode cX8_count 83 = .ok (.ireturn, 1) := by decide +kernel
theorem dX8_count_84 : decode cX8_count 84 = .ok (.aload_n 0, 1) := by decide +kernel
theorem dX8_count_85 : decode cX8_count 85 = .ok (.getfield 19, 3) := by decide +kernel
theorem dX8_count_88 : decode cX8_count 88 = .ok (.getfield 154, 3) := by decide +kernel
theorem dX8_count_91 : decode cX8_count 91 = .ok (.getfield 237, 3) := by decide +kernel
theorem dX8_count_94 : decode cX8_count 94 = .ok (.ireturn, 1) := by decide +kernel
theorem dX8_count_95 : decode cX8_count 95 = .ok (.aload_n 0, 1) := by decide +kernel
theorem dX8_count_96 : decode cX8_count 96 = .ok (.getfield 30, 3) := by decide +kernel
theorem dX8_count_99 : decode cX8_count 99 = .ok (.iconst 0, 1) := by decide +kernel
theorem dX8_count_100 : decode cX8_count 100 = .ok (.baload, 1) := by decide +kernel
theorem dX8_count_101 : decode cX8_count 101 = .ok (.ifCond .eq 7, 3) := by decide +kernel
theorem dX8_count_104 : decode cX8_count 104 = .ok (.iconst 1, 1) := by decide +kernel
theorem dX8_count_105 : decode cX8_count 105 = .ok (.goto 4, 3) := by decide +kernel
theorem dX8_count_108 : decode cX8_count 108 = .ok (.iconst 0, 1) := by decide +kernel
theorem dX8_count_109 : decode cX8_count 109 = .ok (.aload_n 0, 1) := by decide +kernel
theorem dX8_count_110 : decode cX8_count 110 = .ok (.getfield 30, 3) := by decide +kernel
theorem dX8_count_113 : decode cX8_count 113 = .ok (.iconst 1, 1) := by decide +kernel
theorem dX8_count_114 : decode cX8_count 114 = .ok (.baload, 1) := by decide +kernel
theorem dX8_count_115 : decode cX8_count 115 = .ok (.ifCond .eq 7, 3) := by decide +kernel
theorem dX8_count_118 : decode cX8_count 118 = .ok (.iconst 1, 1) := by decide +kernel
theorem dX8_count_119 : decode cX8_count 119 = .ok (.goto 4, 3) := by decide +kernel
theorem dX8_count_122 : decode cX8_count 122 = .ok (.iconst 0, 1) := by decide +kernel
theorem dX8_count_123 : decode cX8_count 123 = .ok (.iadd, 1) := by decide +kernel
theorem dX8_count_124 : decode cX8_count 124 = .ok (.ireturn, 1) := by decide +kernel
theorem dX8_count_125 : decode cX8_count 125 = .ok (.aload_n 0, 1) := by decide +kernel
theorem dX8_count_126 : decode cX8_count 126 = .ok (.getfield 51, 3) := by decide +kernel
theorem dX8_count_129 : decode cX8_count 129 = .ok (.getfield 359, 3) := by decide +kernel
theorem dX8_count_132 : decode cX8_count 132 = .ok (.ireturn, 1) := by decide +kernel
theorem dX8_count_133 : decode cX8_count 133 = .ok (.aload_n 0, 1) := by decide +kernel
theorem dX8_count_134 : decode cX8_count 134 = .ok (.getfield 10, 3) := by decide +kernel
theorem dX8_count_137 : decode cX8_count 137 = .ok (.getfield 360, 3) := by decide +kernel
theorem dX8_count_140 : decode cX8_count 140 = .ok (.ireturn, 1) := by decide +kernel
theorem dX8_count_141 : decode cX8_count 141 = .ok (.aload_n 0, 1) := by decide +kernel
theorem dX8_count_142 : decode cX8_count 142 = .ok (.getfield 57, 3) := by decide +kernel
theorem dX8_count_145 : decode cX8_count 145 = .ok (.iconst 0, 1) := by decide +kernel
theorem dX8_count_146 : decode cX8_count 146 = .ok (.aaload, 1) := by decide +kernel
theorem dX8_count_147 : decode cX8_count 147 = .ok (.getfield 363, 3) := by decide +kernel
theorem dX8_count_150 : decode cX8_count 150 = .ok (.ireturn, 1) := by decide +kernel
theorem dX8_count_151 : decode cX8_count 151 = .ok (.iconst (-1), 1) := by decide +kernel
theorem dX8_count_152 : decode cX8_count 152 = .ok (.ireturn, 1) := by decide +kernel
theorem dX8_isDoor_0 : decode cX8_isDoor 0 = .ok (.iload_n 1, 1) := by decide +kernel
theorem dX8_isDoor_1 : decode cX8_isDoor 1 = .ok (.ifCond .lt 18, 3) := by decide +kernel
theorem dX8_isDoor_4 : decode cX8_isDoor 4 = .ok (.iload_n 1, 1) := by decide +kernel
theorem dX8_isDoor_5 : decode cX8_isDoor 5 = .ok (.aload_n 0, 1) := by decide +kernel
theorem dX8_isDoor_6 : decode cX8_isDoor 6 = .ok (.getfield 64, 3) := by decide +kernel
theorem dX8_isDoor_9 : decode cX8_isDoor 9 = .ok (.getfield 290, 3) := by decide +kernel
theorem dX8_isDoor_12 : decode cX8_isDoor 12 = .ok (.if_icmp .ge 7, 3) := by decide +kernel
theorem dX8_isDoor_15 : decode cX8_isDoor 15 = .ok (.iconst 1, 1) := by decide +kernel
theorem dX8_isDoor_16 : decode cX8_isDoor 16 = .ok (.goto 4, 3) := by decide +kernel
theorem dX8_isDoor_19 : decode cX8_isDoor 19 = .ok (.iconst 0, 1) := by decide +kernel
theorem dX8_isDoor_20 : decode cX8_isDoor 20 = .ok (.ireturn, 1) := by decide +kernel
theorem dX8_door_0 : decode cX8_door 0 = .ok (.aload_n 0, 1) := by decide +kernel
theorem dX8_door_1 : decode cX8_door 1 = .ok (.iload_n 1, 1) := by decide +kernel
theorem dX8_door_2 : decode cX8_door 2 = .ok (.invokevirtual 133, 3) := by decide +kernel
theorem dX8_door_5 : decode cX8_door 5 = .ok (.ifCond .ne 5, 3) := by decide +kernel
theorem dX8_door_8 : decode cX8_door 8 = .ok (.iconst (-1), 1) := by decide +kernel
theorem dX8_door_9 : decode cX8_door 9 = .ok (.ireturn, 1) := by decide +kernel
theorem dX8_door_10 : decode cX8_door 10 = .ok (.iload_n 2, 1) := by decide +kernel
theorem dX8_door_11 : decode cX8_door 11 = .ok (.tableswitch 121 0 6 #[41, 51, 61, 71, 81, 91, 101], 41) := by decide +kernel
theorem dX8_door_52 : decode cX8_door 52 = .ok (.aload_n 0, 1) := by decide +kernel
theorem dX8_door_53 : decode cX8_door 53 = .ok (.getfield 64, 3) := by decide +kernel
theorem dX8_door_56 : decode cX8_door 56 = .ok (.getfield 136, 3) := by decide +kernel
theorem dX8_door_59 : decode cX8_door 59 = .ok (.iload_n 1, 1) := by decide +kernel
theorem dX8_door_60 : decode cX8_door 60 = .ok (.iaload, 1) := by decide +kernel
theorem dX8_door_61 : decode cX8_door 61 = .ok (.ireturn, 1) := by decide +kernel
theorem dX8_door_62 : decode cX8_door 62 = .ok (.aload_n 0, 1) := by decide +kernel
theorem dX8_door_63 : decode cX8_door 63 = .ok (.getfield 64, 3) := by decide +kernel
theorem dX8_door_66 : decode cX8_door 66 = .ok (.getfield 139, 3) := by decide +kernel
theorem dX8_door_69 : decode cX8_door 69 = .ok (.iload_n 1, 1) := by decide +kernel
theorem dX8_door_70 : decode cX8_door 70 = .ok (.iaload, 1) := by decide +kernel
theorem dX8_door_71 : decode cX8_door 71 = .ok (.ireturn, 1) := by decide +kernel
theorem dX8_door_72 : decode cX8_door 72 = .ok (.aload_n 0, 1) := by decide +kernel
theorem dX8_door_73 : decode cX8_door 73 = .ok (.getfield 64, 3) := by decide +kernel
theorem dX8_door_76 : decode cX8_door 76 = .ok (.getfield 142, 3) := by decide +kernel
theorem dX8_door_79 : decode cX8_door 79 = .ok (.iload_n 1, 1) := by decide +kernel
theorem dX8_door_80 : decode cX8_door 80 = .ok (.iaload, 1) := by decide +kernel
theorem dX8_door_81 : decode cX8_door 81 = .ok (.ireturn, 1) := by decide +kernel
theorem dX8_door_82 : decode cX8_door 82 = .ok (.aload_n 0, 1) := by decide +kernel
theorem dX8_door_83 : decode cX8_door 83 = .ok (.getfield 64, 3) := by decide +kernel
theorem dX8_door_86 : decode cX8_door 86 = .ok (.getfield 145, 3) := by decide +kernel
theorem dX8_door_89 : decode cX8_door 89 = .ok (.iload_n 1, 1) := by decide +kernel
theorem dX8_door_90 : decode cX8_door 90 = .ok (.iaload, 1) := by decide +kernel
theorem dX8_door_91 : decode cX8_door 91 = .ok (.ireturn, 1) := by decide +kernel
theorem dX8_door_92 : decode cX8_door 92 = .ok (.aload_n 0, 1) := by decide +kernel
theorem dX8_door_93 : decode cX8_door 93 = .ok (.getfield 64, 3) := by decide +kernel
theorem dX8_door_96 : decode cX8_door 96 = .ok (.getfield 148, 3) := by decide +kernel
theorem dX8_door_99 : decode cX8_door 99 = .ok (.iload_n 1, 1) := by decide +kernel
theorem dX8_door_100 : decode cX8_door 100 = .ok (.iaload, 1) := by decide +kernel
theorem dX8_door_101 : decode cX8_door 101 = .ok (.ireturn, 1) := by decide +kernel
theorem dX8_door_102 : decode cX8_door 102 = .ok (.aload_n 0, 1) := by decide +kernel
theorem dX8_door_103 : decode cX8_door 103 = .ok (.getfield 19, 3) := by decide +kernel
theorem dX8_door_106 : decode cX8_door 106 = .ok (.getfield 151, 3) := by decide +kernel
theorem dX8_door_109 : decode cX8_door 109 = .ok (.iload_n 1, 1) := by decide +kernel
theorem dX8_door_110 : decode cX8_door 110 = .ok (.iaload, 1) := by decide +kernel
theorem dX8_door_111 : decode cX8_door 111 = .ok (.ireturn, 1) := by decide +kernel
theorem dX8_door_112 : decode cX8_door 112 = .ok (.aload_n 0, 1) := by decide +kernel
theorem dX8_door_113 : decode cX8_door 113 = .ok (.getfield 19, 3) := by decide +kernel
theorem dX8_door_116 : decode cX8_door 116 = .ok (.getfield 154, 3) := by decide +kernel
theorem dX8_door_119 : decode cX8_door 119 = .ok (.iload_n 1, 1) := by decide +kernel
theorem dX8_door_120 : decode cX8_door 120 = .ok (.invokevirtual 158, 3) := by decide +kernel
theorem dX8_door_123 : decode cX8_door 123 = .ok (.ifCond .eq 7, 3) := by decide +kernel
theorem dX8_door_126 : decode cX8_door 126 = .ok (.iconst 1, 1) := by decide +kernel
theorem dX8_door_127 : decode cX8_door 127 = .ok (.goto 4, 3) := by decide +kernel
theorem dX8_door_130 : decode cX8_door 130 = .ok (.iconst 0, 1) := by decide +kernel
theorem dX8_door_131 : decode cX8_door 131 = .ok (.ireturn, 1) := by decide +kernel
theorem dX8_door_132 : decode cX8_door 132 = .ok (.iconst (-1), 1) := by decide +kernel
theorem dX8_door_133 : decode cX8_door 133 = .ok (.ireturn, 1) := by decide +kernel
theorem dX8_openDoors_0 : decode cX8_openDoors 0 = .ok (.iconst 0, 1) := by decide +kernel
theorem dX8_openDoors_1 : decode cX8_openDoors 1 = .ok (.istore_n 1, 1) := by decide +kernel
theorem dX8_openDoors_2 : decode cX8_openDoors 2 = .ok (.iconst 0, 1) := by decide +kernel
theorem dX8_openDoors_3 : decode cX8_openDoors 3 = .ok (.istore_n 2, 1) := by decide +kernel
theorem dX8_openDoors_4 : decode cX8_openDoors 4 = .ok (.iload_n 2, 1) := by decide +kernel
theorem dX8_openDoors_5 : decode cX8_openDoors 5 = .ok (.aload_n 0, 1) := by decide +kernel
theorem dX8_openDoors_6 : decode cX8_openDoors 6 = .ok (.getfield 64, 3) := by decide +kernel
theorem dX8_openDoors_9 : decode cX8_openDoors 9 = .ok (.getfield 290, 3) := by decide +kernel
theorem dX8_openDoors_12 : decode cX8_openDoors 12 = .ok (.if_icmp .ge 23, 3) := by decide +kernel
theorem dX8_openDoors_15 : decode cX8_openDoors 15 = .ok (.iload_n 1, 1) := by decide +kernel
theorem dX8_openDoors_16 : decode cX8_openDoors 16 = .ok (.aload_n 0, 1) := by decide +kernel
theorem dX8_openDoors_17 : decode cX8_openDoors 17 = .ok (.getfield 19, 3) := by decide +kernel
theorem dX8_openDoors_20 : decode cX8_openDoors 20 = .ok (.getfield 151, 3) := by decide +kernel
theorem dX8_openDoors_23 : decode cX8_openDoors 23 = .ok (.iload_n 2, 1) := by decide +kernel
theorem dX8_openDoors_24 : decode cX8_openDoors 24 = .ok (.iaload, 1) := by decide +kernel
theorem dX8_openDoors_25 : decode cX8_openDoors 25 = .ok (.iload_n 2, 1) := by decide +kernel
theorem dX8_openDoors_26 : decode cX8_openDoors 26 = .ok (.ishl, 1) := by decide +kernel
theorem dX8_openDoors_27 : decode cX8_openDoors 27 = .ok (.ior, 1) := by decide +kernel
theorem dX8_openDoors_28 : decode cX8_openDoors 28 = .ok (.istore_n 1, 1) := by decide +kernel
theorem dX8_openDoors_29 : decode cX8_openDoors 29 = .ok (.iinc 2 1, 3) := by decide +kernel
theorem dX8_openDoors_32 : decode cX8_openDoors 32 = .ok (.goto (-28), 3) := by decide +kernel
theorem dX8_openDoors_35 : decode cX8_openDoors 35 = .ok (.iload_n 1, 1) := by decide +kernel
theorem dX8_openDoors_36 : decode cX8_openDoors 36 = .ok (.ireturn, 1) := by decide +kernel
theorem dX8_reachedFrom_0 : decode cX8_reachedFrom 0 = .ok (.iload_n 1, 1) := by decide +kernel
theorem dX8_reachedFrom_1 : decode cX8_reachedFrom 1 = .ok (.istore_n 3, 1) := by decide +kernel
theorem dX8_reachedFrom_2 : decode cX8_reachedFrom 2 = .ok (.iconst 0, 1) := by decide +kernel
theorem dX8_reachedFrom_3 : decode cX8_reachedFrom 3 = .ok (.istore 4, 2) := by decide +kernel
theorem dX8_reachedFrom_5 : decode cX8_reachedFrom 5 = .ok (.iload 4, 2) := by decide +kernel
theorem dX8_reachedFrom_7 : decode cX8_reachedFrom 7 = .ok (.aload_n 0, 1) := by decide +kernel
theorem dX8_reachedFrom_8 : decode cX8_reachedFrom 8 = .ok (.getfield 64, 3) := by decide +kernel
theorem dX8_reachedFrom_11 : decode cX8_reachedFrom 11 = .ok (.getfield 297, 3) := by decide +kernel
theorem dX8_reachedFrom_14 : decode cX8_reachedFrom 14 = .ok (.if_icmp .ge 79, 3) := by decide +kernel
theorem dX8_reachedFrom_17 : decode cX8_reachedFrom 17 = .ok (.iconst 0, 1) := by decide +kernel
theorem dX8_reachedFrom_18 : decode cX8_reachedFrom 18 = .ok (.istore 5, 2) := by decide +kernel
theorem dX8_reachedFrom_20 : decode cX8_reachedFrom 20 = .ok (.iload 5, 2) := by decide +kernel
theorem dX8_reachedFrom_22 : decode cX8_reachedFrom 22 = .ok (.aload_n 0, 1) := by decide +kernel
theorem dX8_reachedFrom_23 : decode cX8_reachedFrom 23 = .ok (.getfield 64, 3) := by decide +kernel
theorem dX8_reachedFrom_26 : decode cX8_reachedFrom 26 = .ok (.getfield 290, 3) := by decide +kernel
theorem dX8_reachedFrom_29 : decode cX8_reachedFrom 29 = .ok (.if_icmp .ge 58, 3) := by decide +kernel
theorem dX8_reachedFrom_32 : decode cX8_reachedFrom 32 = .ok (.iconst 1, 1) := by decide +kernel
theorem dX8_reachedFrom_33 : decode cX8_reachedFrom 33 = .ok (.aload_n 0, 1) := by decide +kernel
theorem dX8_reachedFrom_34 : decode cX8_reachedFrom 34 = .ok (.getfield 64, 3) := by decide +kernel
theorem dX8_reachedFrom_37 : decode cX8_reachedFrom 37 = .ok (.getfield 136, 3) := by decide +kernel
theorem dX8_reachedFrom_40 : decode cX8_reachedFrom 40 = .ok (.iload 5, 2) := by decide +kernel
theorem dX8_reachedFrom_42 : decode cX8_reachedFrom 42 = .ok (.iaload, 1) := by decide +kernel
theorem dX8_reachedFrom_43 : decode cX8_reachedFrom 43 = .ok (.ishl, 1) := by decide +kernel
theorem dX8_reachedFrom_44 : decode cX8_reachedFrom 44 = .ok (.iconst 1, 1) := by decide +kernel
theorem dX8_reachedFrom_45 : decode cX8_reachedFrom 45 = .ok (.aload_n 0, 1) := by decide +kernel
theorem dX8_reachedFrom_46 : decode cX8_reachedFrom 46 = .ok (.getfield 64, 3) := by decide +kernel
theorem dX8_reachedFrom_49 : decode cX8_reachedFrom 49 = .ok (.getfield 139, 3) := by decide +kernel
theorem dX8_reachedFrom_52 : decode cX8_reachedFrom 52 = .ok (.iload 5, 2) := by decide +kernel
theorem dX8_reachedFrom_54 : decode cX8_reachedFrom 54 = .ok (.iaload, 1) := by decide +kernel
theorem dX8_reachedFrom_55 : decode cX8_reachedFrom 55 = .ok (.ishl, 1) := by decide +kernel
theorem dX8_reachedFrom_56 : decode cX8_reachedFrom 56 = .ok (.ior, 1) := by decide +kernel
theorem dX8_reachedFrom_57 : decode cX8_reachedFrom 57 = .ok (.istore 6, 2) := by decide +kernel
theorem dX8_reachedFrom_59 : decode cX8_reachedFrom 59 = .ok (.iload_n 2, 1) := by decide +kernel
theorem dX8_reachedFrom_60 : decode cX8_reachedFrom 60 = .ok (.iload 5, 2) := by decide +kernel
theorem dX8_reachedFrom_62 : decode cX8_reachedFrom 62 = .ok (.ishr, 1) := by decide +kernel
theorem dX8_reachedFrom_63 : decode cX8_reachedFrom 63 = .ok (.iconst 1, 1) := by decide +kernel
theorem dX8_reachedFrom_64 : decode cX8_reachedFrom 64 = .ok (.iand, 1) := by decide +kernel
theorem dX8_reachedFrom_65 : decode cX8_reachedFrom 65 = .ok (.iconst 1, 1) := by decide +kernel
theorem dX8_reachedFrom_66 : decode cX8_reachedFrom 66 = .ok (.if_icmp .ne 15, 3) := by decide +kernel
theorem dX8_reachedFrom_69 : decode cX8_reachedFrom 69 = .ok (.iload_n 3, 1) := by decide +kernel
theorem dX8_reachedFrom_70 : decode cX8_reachedFrom 70 = .ok (.iload 6, 2) := by decide +kernel
theorem dX8_reachedFrom_72 : decode cX8_reachedFrom 72 = .ok (.iand, 1) := by decide +kernel
theorem dX8_reachedFrom_73 : decode cX8_reachedFrom 73 = .ok (.ifCond .eq 8, 3) := by decide +kernel
theorem dX8_reachedFrom_76 : decode cX8_reachedFrom 76 = .ok (.iload_n 3, 1) := by decide +kernel
theorem dX8_reachedFrom_77 : decode cX8_reachedFrom 77 = .ok (.iload 6, 2) := by decide +kernel
theorem dX8_reachedFrom_79 : decode cX8_reachedFrom 79 = .ok (.ior, 1) := by decide +kernel
theorem dX8_reachedFrom_80 : decode cX8_reachedFrom 80 = .ok (.istore_n 3, 1) := by decide +kernel
theorem dX8_reachedFrom_81 : decode cX8_reachedFrom 81 = .ok (.iinc 5 1, 3) := by decide +kernel
theorem dX8_reachedFrom_84 : decode cX8_reachedFrom 84 = .ok (.goto (-64), 3) := by decide +kernel
theorem dX8_reachedFrom_87 : decode cX8_reachedFrom 87 = .ok (.iinc 4 1, 3) := by decide +kernel
theorem dX8_reachedFrom_90 : decode cX8_reachedFrom 90 = .ok (.goto (-85), 3) := by decide +kernel
theorem dX8_reachedFrom_93 : decode cX8_reachedFrom 93 = .ok (.iload_n 3, 1) := by decide +kernel
theorem dX8_reachedFrom_94 : decode cX8_reachedFrom 94 = .ok (.ireturn, 1) := by decide +kernel
theorem dX8_fewestDoorsAround_0 : decode cX8_fewestDoorsAround 0 = .ok (.aload_n 0, 1) := by decide +kernel
theorem dX8_fewestDoorsAround_1 : decode cX8_fewestDoorsAround 1 = .ok (.invokevirtual 314, 3) := by decide +kernel
theorem dX8_fewestDoorsAround_4 : decode cX8_fewestDoorsAround 4 = .ok (.istore_n 3, 1) := by decide +kernel
theorem dX8_fewestDoorsAround_5 : decode cX8_fewestDoorsAround 5 = .ok (.iload_n 3, 1) := by decide +kernel
theorem dX8_fewestDoorsAround_6 : decode cX8_fewestDoorsAround 6 = .ok (.istore 4, 2) := by decide +kernel
theorem dX8_fewestDoorsAround_8 : decode cX8_fewestDoorsAround 8 = .ok (.iconst 0, 1) := by decide +kernel
theorem dX8_fewestDoorsAround_9 : decode cX8_fewestDoorsAround 9 = .ok (.istore 5, 2) := by decide +kernel
theorem dX8_fewestDoorsAround_11 : decode cX8_fewestDoorsAround 11 = .ok (.iload 5, 2) := by decide +kernel
theorem dX8_fewestDoorsAround_13 : decode cX8_fewestDoorsAround 13 = .ok (.iconst 1, 1) := by decide +kernel
theorem dX8_fewestDoorsAround_14 : decode cX8_fewestDoorsAround 14 = .ok (.aload_n 0, 1) := by decide +kernel
theorem dX8_fewestDoorsAround_15 : decode cX8_fewestDoorsAround 15 = .ok (.getfield 64, 3) := by decide +kernel
theorem dX8_fewestDoorsAround_18 : decode cX8_fewestDoorsAround 18 = .ok (.getfield 290, 3) := by decide +kernel
theorem dX8_fewestDoorsAround_21 : decode cX8_fewestDoorsAround 21 = .ok (.ishl, 1) := by decide +kernel
theorem dX8_fewestDoorsAround_22 : decode cX8_fewestDoorsAround 22 = .ok (.if_icmp .ge 65, 3) := by decide +kernel
theorem dX8_fewestDoorsAround_25 : decode cX8_fewestDoorsAround 25 = .ok (.iload 5, 2) := by decide +kernel
theorem dX8_fewestDoorsAround_27 : decode cX8_fewestDoorsAround 27 = .ok (.invokestatic 306, 3) := by decide +kernel
theorem dX8_fewestDoorsAround_30 : decode cX8_fewestDoorsAround 30 = .ok (.iload 4, 2) := by decide +kernel
theorem dX8_fewestDoorsAround_32 : decode cX8_fewestDoorsAround 32 = .ok (.invokestatic 306, 3) := by decide +kernel
theorem dX8_fewestDoorsAround_35 : decode cX8_fewestDoorsAround 35 = .ok (.if_icmp .ge 7, 3) := by decide +kernel
theorem dX8_fewestDoorsAround_38 : decode cX8_fewestDoorsAround 38 = .ok (.iconst 1, 1) := by decide +kernel
theorem dX8_fewestDoorsAround_39 : decode cX8_fewestDoorsAround 39 = .ok (.goto 4, 3) := by decide +kernel
theorem dX8_fewestDoorsAround_42 : decode cX8_fewestDoorsAround 42 = .ok (.iconst 0, 1) := by decide +kernel
theorem dX8_fewestDoorsAround_43 : decode cX8_fewestDoorsAround 43 = .ok (.istore 6, 2) := by decide +kernel
theorem dX8_fewestDoorsAround_45 : decode cX8_fewestDoorsAround 45 = .ok (.iload 6, 2) := by decide +kernel
theorem dX8_fewestDoorsAround_47 : decode cX8_fewestDoorsAround 47 = .ok (.ifCond .eq 34, 3) := by decide +kernel
theorem dX8_fewestDoorsAround_50 : decode cX8_fewestDoorsAround 50 = .ok (.iload 5, 2) := by decide +kernel
theorem dX8_fewestDoorsAround_52 : decode cX8_fewestDoorsAround 52 = .ok (.iload_n 3, 1) := by decide +kernel
theorem dX8_fewestDoorsAround_53 : decode cX8_fewestDoorsAround 53 = .ok (.iconst (-1), 1) := by decide +kernel
theorem dX8_fewestDoorsAround_54 : decode cX8_fewestDoorsAround 54 = .ok (.ixor, 1) := by decide +kernel
theorem dX8_fewestDoorsAround_55 : decode cX8_fewestDoorsAround 55 = .ok (.iand, 1) := by decide +kernel
theorem dX8_fewestDoorsAround_56 : decode cX8_fewestDoorsAround 56 = .ok (.ifCond .ne 25, 3) := by decide +kernel
theorem dX8_fewestDoorsAround_59 : decode cX8_fewestDoorsAround 59 = .ok (.aload_n 0, 1) := by decide +kernel
theorem dX8_fewestDoorsAround_60 : decode cX8_fewestDoorsAround 60 = .ok (.iload_n 2, 1) := by decide +kernel
theorem dX8_fewestDoorsAround_61 : decode cX8_fewestDoorsAround 61 = .ok (.iload_n 3, 1) := by decide +kernel
theorem dX8_fewestDoorsAround_62 : decode cX8_fewestDoorsAround 62 = .ok (.iload 5, 2) := by decide +kernel
theorem dX8_fewestDoorsAround_64 : decode cX8_fewestDoorsAround 64 = .ok (.iconst (-1), 1) := by decide +kernel
theorem dX8_fewestDoorsAround_65 : decode cX8_fewestDoorsAround 65 = .ok (.ixor, 1) := by decide +kernel
theorem dX8_fewestDoorsAround_66 : decode cX8_fewestDoorsAround 66 = .ok (.iand, 1) := by decide +kernel
theorem dX8_fewestDoorsAround_67 : decode cX8_fewestDoorsAround 67 = .ok (.invokevirtual 317, 3) := by decide +kernel
theorem dX8_fewestDoorsAround_70 : decode cX8_fewestDoorsAround 70 = .ok (.iload_n 1, 1) := by decide +kernel
theorem dX8_fewestDoorsAround_71 : decode cX8_fewestDoorsAround 71 = .ok (.ishr, 1) := by decide +kernel
theorem dX8_fewestDoorsAround_72 : decode cX8_fewestDoorsAround 72 = .ok (.iconst 1, 1) := by decide +kernel
theorem dX8_fewestDoorsAround_73 : decode cX8_fewestDoorsAround 73 = .ok (.iand, 1) := by decide +kernel
theorem dX8_fewestDoorsAround_74 : decode cX8_fewestDoorsAround 74 = .ok (.ifCond .ne 7, 3) := by decide +kernel
theorem dX8_fewestDoorsAround_77 : decode cX8_fewestDoorsAround 77 = .ok (.iload 5, 2) := by decide +kernel
theorem dX8_fewestDoorsAround_79 : decode cX8_fewestDoorsAround 79 = .ok (.istore 4, 2) := by decide +kernel
theorem dX8_fewestDoorsAround_81 : decode cX8_fewestDoorsAround 81 = .ok (.iinc 5 1, 3) := by decide +kernel
theorem dX8_fewestDoorsAround_84 : decode cX8_fewestDoorsAround 84 = .ok (.goto (-73), 3) := by decide +kernel
theorem dX8_fewestDoorsAround_87 : decode cX8_fewestDoorsAround 87 = .ok (.iload 4, 2) := by decide +kernel
theorem dX8_fewestDoorsAround_89 : decode cX8_fewestDoorsAround 89 = .ok (.ireturn, 1) := by decide +kernel
theorem dX8_holdsWithHoles_0 : decode cX8_holdsWithHoles 0 = .ok (.iconst 0, 1) := by decide +kernel
theorem dX8_holdsWithHoles_1 : decode cX8_holdsWithHoles 1 = .ok (.istore_n 1, 1) := by decide +kernel
theorem dX8_holdsWithHoles_2 : decode cX8_holdsWithHoles 2 = .ok (.iconst 0, 1) := by decide +kernel
theorem dX8_holdsWithHoles_3 : decode cX8_holdsWithHoles 3 = .ok (.istore_n 2, 1) := by decide +kernel
theorem dX8_holdsWithHoles_4 : decode cX8_holdsWithHoles 4 = .ok (.iload_n 2, 1) := by decide +kernel
theorem dX8_holdsWithHoles_5 : decode cX8_holdsWithHoles 5 = .ok (.aload_n 0, 1) := by decide +kernel
theorem dX8_holdsWithHoles_6 : decode cX8_holdsWithHoles 6 = .ok (.getfield 64, 3) := by decide +kernel
theorem dX8_holdsWithHoles_9 : decode cX8_holdsWithHoles 9 = .ok (.getfield 353, 3) := by decide +kernel
theorem dX8_holdsWithHoles_12 : decode cX8_holdsWithHoles 12 = .ok (.if_icmp .ge 23, 3) := by decide +kernel
theorem dX8_holdsWithHoles_15 : decode cX8_holdsWithHoles 15 = .ok (.iload_n 1, 1) := by decide +kernel
theorem dX8_holdsWithHoles_16 : decode cX8_holdsWithHoles 16 = .ok (.iconst 1, 1) := by decide +kernel
theorem dX8_holdsWithHoles_17 : decode cX8_holdsWithHoles 17 = .ok (.aload_n 0, 1) := by decide +kernel
theorem dX8_holdsWithHoles_18 : decode cX8_holdsWithHoles 18 = .ok (.getfield 64, 3) := by decide +kernel
theorem dX8_holdsWithHoles_21 : decode cX8_holdsWithHoles 21 = .ok (.getfield 166, 3) := by decide +kernel
theorem dX8_holdsWithHoles_24 : decode cX8_holdsWithHoles 24 = .ok (.iload_n 2, 1) := by decide +kernel
theorem dX8_holdsWithHoles_25 : decode cX8_holdsWithHoles 25 = .ok (.iaload, 1) := by decide +kernel
theorem dX8_holdsWithHoles_26 : decode cX8_holdsWithHoles 26 = .ok (.ishl, 1) := by decide +kernel
theorem dX8_holdsWithHoles_27 : decode cX8_holdsWithHoles 27 = .ok (.ior, 1) := by decide +kernel
theorem dX8_holdsWithHoles_28 : decode cX8_holdsWithHoles 28 = .ok (.istore_n 1, 1) := by decide +kernel
theorem dX8_holdsWithHoles_29 : decode cX8_holdsWithHoles 29 = .ok (.iinc 2 1, 3) := by decide +kernel
theorem dX8_holdsWithHoles_32 : decode cX8_holdsWithHoles 32 = .ok (.goto (-28), 3) := by decide +kernel
theorem dX8_holdsWithHoles_35 : decode cX8_holdsWithHoles 35 = .ok (.iload_n 1, 1) := by decide +kernel
theorem dX8_holdsWithHoles_36 : decode cX8_holdsWithHoles 36 = .ok (.ireturn, 1) := by decide +kernel
theorem dX8_dry_0 : decode cX8_dry 0 = .ok (.aload_n 0, 1) := by decide +kernel
theorem dX8_dry_1 : decode cX8_dry 1 = .ok (.iload_n 1, 1) := by decide +kernel
theorem dX8_dry_2 : decode cX8_dry 2 = .ok (.invokevirtual 109, 3) := by decide +kernel
theorem dX8_dry_5 : decode cX8_dry 5 = .ok (.ifCond .eq 12, 3) := by decide +kernel
theorem dX8_dry_8 : decode cX8_dry 8 = .ok (.iload_n 2, 1) := by decide +kernel
theorem dX8_dry_9 : decode cX8_dry 9 = .ok (.ifCond .lt 8, 3) := by decide +kernel
theorem dX8_dry_12 : decode cX8_dry 12 = .ok (.iload_n 2, 1) := by decide +kernel
theorem dX8_dry_13 : decode cX8_dry 13 = .ok (.iconst 1, 1) := by decide +kernel
theorem dX8_dry_14 : decode cX8_dry 14 = .ok (.if_icmp .le 5, 3) := by decide +kernel
theorem dX8_dry_17 : decode cX8_dry 17 = .ok (.iconst (-1), 1) := by decide +kernel
theorem dX8_dry_18 : decode cX8_dry 18 = .ok (.ireturn, 1) := by decide +kernel
theorem dX8_dry_19 : decode cX8_dry 19 = .ok (.aload_n 0, 1) := by decide +kernel
theorem dX8_dry_20 : decode cX8_dry 20 = .ok (.invokevirtual 320, 3) := by decide +kernel
theorem dX8_dry_23 : decode cX8_dry 23 = .ok (.istore_n 3, 1) := by decide +kernel
theorem dX8_dry_24 : decode cX8_dry 24 = .ok (.iload_n 3, 1) := by decide +kernel
theorem dX8_dry_25 : decode cX8_dry 25 = .ok (.iload_n 1, 1) := by decide +kernel
theorem dX8_dry_26 : decode cX8_dry 26 = .ok (.ishr, 1) := by decide +kernel
theorem dX8_dry_27 : decode cX8_dry 27 = .ok (.iconst 1, 1) := by decide +kernel
theorem dX8_dry_28 : decode cX8_dry 28 = .ok (.iand, 1) := by decide +kernel
theorem dX8_dry_29 : decode cX8_dry 29 = .ok (.iconst 1, 1) := by decide +kernel
theorem dX8_dry_30 : decode cX8_dry 30 = .ok (.if_icmp .ne 6, 3) := by decide +kernel
theorem dX8_dry_33 : decode cX8_dry 33 = .ok (.bipush (-4), 2) := by decide +kernel
theorem dX8_dry_35 : decode cX8_dry 35 = .ok (.ireturn, 1) := by decide +kernel
theorem dX8_dry_36 : decode cX8_dry 36 = .ok (.aload_n 0, 1) := by decide +kernel
theorem dX8_dry_37 : decode cX8_dry 37 = .ok (.iload_n 1, 1) := by decide +kernel
theorem dX8_dry_38 : decode cX8_dry 38 = .ok (.iload_n 3, 1) := by decide +kernel
theorem dX8_dry_39 : decode cX8_dry 39 = .ok (.invokevirtual 323, 3) := by decide +kernel
theorem dX8_dry_42 : decode cX8_dry 42 = .ok (.istore 4, 2) := by decide +kernel
theorem dX8_dry_44 : decode cX8_dry 44 = .ok (.iload_n 2, 1) := by decide +kernel
theorem dX8_dry_45 : decode cX8_dry 45 = .ok (.ifCond .ne 11, 3) := by decide +kernel
theorem dX8_dry_48 : decode cX8_dry 48 = .ok (.iload 4, 2) := by decide +kernel
theorem dX8_dry_50 : decode cX8_dry 50 = .ok (.invokestatic 306, 3) := by decide +kernel
theorem dX8_dry_53 : decode cX8_dry 53 = .ok (.goto 5, 3) := by decide +kernel
theorem dX8_dry_56 : decode cX8_dry 56 = .ok (.iload 4, 2) := by decide +kernel
theorem dX8_dry_58 : decode cX8_dry 58 = .ok (.ireturn, 1) := by decide +kernel
theorem dX8_end_0 : decode cX8_end 0 = .ok (.aload_n 0, 1) := by decide +kernel
theorem dX8_end_1 : decode cX8_end 1 = .ok (.getfield 10, 3) := by decide +kernel
theorem dX8_end_4 : decode cX8_end 4 = .ok (.iload_n 1, 1) := by decide +kernel
theorem dX8_end_5 : decode cX8_end 5 = .ok (.invokevirtual 83, 3) := by decide +kernel
theorem dX8_end_8 : decode cX8_end 8 = .ok (.ireturn, 1) := by decide +kernel
theorem dX8_fault_0 : decode cX8_fault 0 = .ok (.aload_n 0, 1) := by decide +kernel
theorem dX8_fault_1 : decode cX8_fault 1 = .ok (.getfield 94, 3) := by decide +kernel
theorem dX8_fault_4 : decode cX8_fault 4 = .ok (.ireturn, 1) := by decide +kernel
theorem dX8_feed_0 : decode cX8_feed 0 = .ok (.aload_n 0, 1) := by decide +kernel
theorem dX8_feed_1 : decode cX8_feed 1 = .ok (.getfield 10, 3) := by decide +kernel
theorem dX8_feed_4 : decode cX8_feed 4 = .ok (.lload_n 1, 1) := by decide +kernel
theorem dX8_feed_5 : decode cX8_feed 5 = .ok (.invokevirtual 79, 3) := by decide +kernel
theorem dX8_feed_8 : decode cX8_feed 8 = .ok (.ireturn, 1) := by decide +kernel
def f_X8_count (m : Mm) (P : Nat) (a1 : Int32) : Option (Int32) :=
  if a1 = 0 then (some (m P 0)) else (if a1 = 1 then (some (m P 1)) else (if a1 = 2 then (some (m P 2)) else (if a1 = 3 then (some (m P 3)) else (if a1 = 4 then (some (m 10 0)) else (if a1 = 5 then ((ald m 33 2 0).bind fun x1 => (if x1 = 0 then (some 0) else (some 1) : Option (Int32)).bind fun y2 => (ald m 33 2 1).bind fun x3 => (if x3 = 0 then (some 0) else (some 1) : Option (Int32)).bind fun y4 => some (y2 + y4)) else (if a1 = 6 then (some (m 40 0)) else (if a1 = 7 then (some (m 1 1)) else (if a1 = 8 then ((shtOf 0).bind fun b5 => some (m b5 1)) else (some (-1))))))))))
set_option maxHeartbeats 4000000 in
set_option maxRecDepth 100000 in
theorem ct_X8_count (F : Nat) {n : Nat} (hn : 113 ≤ n) (P D : Nat) (T : Option Nat) (hP : isPl P) (m : Mm) (a1 : Int32) : Ct yX8_count cX8_count 2 (some .int) 0 0 [.ref 0, .int a1] n n m (RF P D T) (rP m (RF P D T) (f_X8_count m P a1)) := by
  refine Ct.ofP (own := RX8) (nm := "count") [(0, .ref 0), (1, .int a1)] (by decide) (Nat.le_of_ble_eq_true rfl) rfl rfl rfl ?_
  unfold f_X8_count
  refine J_iload_n 1 1 a1 dX8_count_0 rfl rfl ?_
  refine J_split (c1 := 0) (fun hs1_0 => ?_) (fun hs1_0 => ?_)
  · refine J_tsIn 52 hs1_0 dX8_count_1 (by decide) (by decide) rfl (by decide) ?_
    refine J_aload_n 0 0 0 dX8_count_52 rfl rfl ?_
    refine J_getR 0 8 9 P dX8_count_53 fl_8_64 rfl rfl (Nat.lt_of_lt_of_le (Nat.le_of_ble_eq_true rfl) hn) rfl ?_
    refine J_getI P 1 0 dX8_count_56 fl_8_297 (layc_Pl_0 hP) rfl (lt_Pl_0 hP hn) ?_
    exact J_iretP dX8_count_59 rfl rfl
  · refine J_split (c1 := 1) (fun hs1_1 => ?_) (fun hs1_1 => ?_)
    · refine J_tsIn 60 hs1_1 dX8_count_1 (by decide) (by decide) rfl (by decide) ?_
      refine J_aload_n 0 0 0 dX8_count_60 rfl rfl ?_
      refine J_getR 0 8 9 P dX8_count_61 fl_8_64 rfl rfl (Nat.lt_of_lt_of_le (Nat.le_of_ble_eq_true rfl) hn) rfl ?_
      refine J_getI P 1 1 dX8_count_64 fl_8_290 (layc_Pl_0 hP) rfl (lt_Pl_0 hP hn) ?_
      exact J_iretP dX8_count_67 rfl rfl
    · refine J_split (c1 := 2) (fun hs1_2 => ?_) (fun hs1_2 => ?_)
      · refine J_tsIn 68 hs1_2 dX8_count_1 (by decide) (by decide) rfl (by decide) ?_
        refine J_aload_n 0 0 0 dX8_count_68 rfl rfl ?_
        refine J_getR 0 8 9 P dX8_count_69 fl_8_64 rfl rfl (Nat.lt_of_lt_of_le (Nat.le_of_ble_eq_true rfl) hn) rfl ?_
        refine J_getI P 1 2 dX8_count_72 fl_8_353 (layc_Pl_0 hP) rfl (lt_Pl_0 hP hn) ?_
        exact J_iretP dX8_count_75 rfl rfl
      · refine J_split (c1 := 3) (fun hs1_3 => ?_) (fun hs1_3 => ?_)
        · refine J_tsIn 76 hs1_3 dX8_count_1 (by decide) (by decide) rfl (by decide) ?_
          refine J_aload_n 0 0 0 dX8_count_76 rfl rfl ?_
          refine J_getR 0 8 9 P dX8_count_77 fl_8_64 rfl rfl (Nat.lt_of_lt_of_le (Nat.le_of_ble_eq_true rfl) hn) rfl ?_
          refine J_getI P 1 3 dX8_count_80 fl_8_356 (layc_Pl_0 hP) rfl (lt_Pl_0 hP hn) ?_
          exact J_iretP dX8_count_83 rfl rfl
        · refine J_split (c1 := 4) (fun hs1_4 => ?_) (fun hs1_4 => ?_)
          · refine J_tsIn 84 hs1_4 dX8_count_1 (by decide) (by decide) rfl (by decide) ?_
            refine J_aload_n 0 0 0 dX8_count_84 rfl rfl ?_
            refine J_getR 0 8 1 4 dX8_count_85 fl_8_19 rfl rfl (Nat.lt_of_lt_of_le (Nat.le_of_ble_eq_true rfl) hn) rfl ?_
            refine J_getR 4 7 9 10 dX8_count_88 fl_8_154 rfl rfl (Nat.lt_of_lt_of_le (Nat.le_of_ble_eq_true rfl) hn) rfl ?_
            refine J_getI 10 0 0 dX8_count_91 fl_8_237 rfl rfl (Nat.lt_of_lt_of_le (Nat.le_of_ble_eq_true rfl) hn) ?_
            exact J_iretP dX8_count_94 rfl rfl
          · refine J_split (c1 := 5) (fun hs1_5 => ?_) (fun hs1_5 => ?_)
            · refine J_tsIn 95 hs1_5 dX8_count_1 (by decide) (by decide) rfl (by decide) ?_
              refine J_aload_n 0 0 0 dX8_count_95 rfl rfl ?_
              refine J_getR 0 8 4 33 dX8_count_96 fl_8_30 rfl rfl (Nat.lt_of_lt_of_le (Nat.le_of_ble_eq_true rfl) hn) rfl ?_
              refine J_iconst 0 dX8_count_99 (by decide) ?_
              refine J_zald 33 2 dX8_count_100 rfl (Nat.lt_of_lt_of_le (Nat.le_of_ble_eq_true rfl) hn) (fun x1 => ?_)
              refine J_seqJ 109 (fun y2 : Int32 => [(0, .ref 0)]) (fun y2 => [.int y2]) (fun y2 => m) (fun y2 => ?_) (fun k1 hEy2 => ?_)
              · refine J_aload_n 0 0 0 dX8_count_109 rfl rfl ?_
                refine J_getR 0 8 4 33 dX8_count_110 fl_8_30 rfl rfl (Nat.lt_of_lt_of_le (Nat.le_of_ble_eq_true rfl) hn) rfl ?_
                refine J_iconst 1 dX8_count_113 (by decide) ?_
                refine J_zald 33 2 dX8_count_114 rfl (Nat.lt_of_lt_of_le (Nat.le_of_ble_eq_true rfl) hn) (fun x3 => ?_)
                refine J_seqJ 123 (fun y4 : Int32 => []) (fun y4 => [.int y4, .int y2]) (fun y4 => m) (fun y4 => ?_) (fun k1 hEy4 => ?_)
                · refine J_iadd dX8_count_123 ?_
                  exact J_iretP dX8_count_124 rfl rfl
                · refine J_if_eq 122 dX8_count_115 (by decide) ?_ ?_
                  · refine J_iconst 0 dX8_count_122 (by decide) ?_
                    exact J_lv [] rfl (hEy4 0)
                  · refine J_iconst 1 dX8_count_118 (by decide) ?_
                    refine J_goto 123 dX8_count_119 (by decide) ?_
                    exact J_lv [] rfl (hEy4 1)
              · refine J_if_eq 108 dX8_count_101 (by decide) ?_ ?_
                · refine J_iconst 0 dX8_count_108 (by decide) ?_
                  exact J_lv [0] rfl (hEy2 0)
                · refine J_iconst 1 dX8_count_104 (by decide) ?_
                  refine J_goto 109 dX8_count_105 (by decide) ?_
                  exact J_lv [0] rfl (hEy2 1)
            · refine J_split (c1 := 6) (fun hs1_6 => ?_) (fun hs1_6 => ?_)
              · refine J_tsIn 125 hs1_6 dX8_count_1 (by decide) (by decide) rfl (by decide) ?_
                refine J_aload_n 0 0 0 dX8_count_125 rfl rfl ?_
                refine J_getR 0 8 7 40 dX8_count_126 fl_8_51 rfl rfl (Nat.lt_of_lt_of_le (Nat.le_of_ble_eq_true rfl) hn) rfl ?_
                refine J_getI 40 6 0 dX8_count_129 fl_8_359 rfl rfl (Nat.lt_of_lt_of_le (Nat.le_of_ble_eq_true rfl) hn) ?_
                exact J_iretP dX8_count_132 rfl rfl
              · refine J_split (c1 := 7) (fun hs1_7 => ?_) (fun hs1_7 => ?_)
                · refine J_tsIn 133 hs1_7 dX8_count_1 (by decide) (by decide) rfl (by decide) ?_
                  refine J_aload_n 0 0 0 dX8_count_133 rfl rfl ?_
                  refine J_getR 0 8 0 1 dX8_count_134 fl_8_10 rfl rfl (Nat.lt_of_lt_of_le (Nat.le_of_ble_eq_true rfl) hn) rfl ?_
                  refine J_getI 1 2 1 dX8_count_137 fl_8_360 rfl rfl (Nat.lt_of_lt_of_le (Nat.le_of_ble_eq_true rfl) hn) ?_
                  exact J_iretP dX8_count_140 rfl rfl
                · refine J_split (c1 := 8) (fun hs1_8 => ?_) (fun hs1_8 => ?_)
                  · refine J_tsIn 141 hs1_8 dX8_count_1 (by decide) (by decide) rfl (by decide) ?_
                    refine J_aload_n 0 0 0 dX8_count_141 rfl rfl ?_
                    refine J_getR 0 8 8 42 dX8_count_142 fl_8_57 rfl rfl (Nat.lt_of_lt_of_le (Nat.le_of_ble_eq_true rfl) hn) rfl ?_
                    refine J_iconst 0 dX8_count_145 (by decide) ?_
                    rw [← shtOf_eq P D T]
                    refine J_aald 42 4 24 4 dX8_count_146 rfl (by decide) (fun _ => rfl) (Nat.lt_of_lt_of_le (Nat.le_of_ble_eq_true rfl) hn) (fun b5 hb5 => ?_)
                    replace hb5 := sh_sheets hb5
                    refine J_getI b5 5 1 dX8_count_147 fl_8_363 (layc_Sh_0 hb5) rfl (lt_Sh_0 hb5 hn) ?_
                    exact J_iretP dX8_count_150 rfl rfl
                  · refine J_tsOut 151 dX8_count_1 (ts_out [0, 1, 2, 3, 4, 5, 6, 7, 8] (by decide) (by simp only [List.mem_cons, List.not_mem_nil, or_false, forall_eq_or_imp, forall_eq]; exact ⟨hs1_0, hs1_1, hs1_2, hs1_3, hs1_4, hs1_5, hs1_6, hs1_7, hs1_8⟩)) (by decide) ?_
                    refine J_iconst (-1) dX8_count_151 (by decide) ?_
                    exact J_iretP dX8_count_152 rfl rfl
def f_X8_isDoor (m : Mm) (P : Nat) (a1 : Int32) : Option (Int32) :=
  if a1 < 0 then (some 0) else (if (m P 1) ≤ a1 then (some 0) else (some 1))
set_option maxHeartbeats 4000000 in
set_option maxRecDepth 100000 in
theorem ct_X8_isDoor (F : Nat) {n : Nat} (hn : 113 ≤ n) (P D : Nat) (T : Option Nat) (hP : isPl P) (m : Mm) (a1 : Int32) : Ct yX8_isDoor cX8_isDoor 2 (some .boolean) 0 0 [.ref 0, .int a1] n n m (RF P D T) (rP m (RF P D T) (f_X8_isDoor m P a1)) := by
  refine Ct.ofP (own := RX8) (nm := "isDoor") [(0, .ref 0), (1, .int a1)] (by decide) (Nat.le_of_ble_eq_true rfl) rfl rfl rfl ?_
  unfold f_X8_isDoor
  refine J_iload_n 1 1 a1 dX8_isDoor_0 rfl rfl ?_
  refine J_if_lt 19 dX8_isDoor_1 (by decide) ?_ ?_
  · refine J_iconst 0 dX8_isDoor_19 (by decide) ?_
    exact J_zretP dX8_isDoor_20 rfl rfl rfl
  · refine J_iload_n 1 1 a1 dX8_isDoor_4 rfl rfl ?_
    refine J_aload_n 0 0 0 dX8_isDoor_5 rfl rfl ?_
    refine J_getR 0 8 9 P dX8_isDoor_6 fl_8_64 rfl rfl (Nat.lt_of_lt_of_le (Nat.le_of_ble_eq_true rfl) hn) rfl ?_
    refine J_getI P 1 1 dX8_isDoor_9 fl_8_290 (layc_Pl_0 hP) rfl (lt_Pl_0 hP hn) ?_
    refine J_icmp_ge 19 dX8_isDoor_12 (by decide) ?_ ?_
    · refine J_iconst 0 dX8_isDoor_19 (by decide) ?_
      exact J_zretP dX8_isDoor_20 rfl rfl rfl
    · refine J_iconst 1 dX8_isDoor_15 (by decide) ?_
      refine J_goto 20 dX8_isDoor_16 (by decide) ?_
      exact J_zretP dX8_isDoor_20 rfl rfl rfl
def f_X8_door (F : Nat) (m : Mm) (P : Nat) (a1 : Int32) (a2 : Int32) : Option (Int32) :=
  (f_X8_isDoor m P a1).bind fun x1 => if x1 = 0 then (some (-1)) else (if a2 = 0 then ((ald m (P + 5) 10 a1).bind fun x3 => some x3) else (if a2 = 1 then ((ald m (P + 6) 10 a1).bind fun x4 => some x4) else (if a2 = 2 then ((ald m (P + 7) 10 a1).bind fun x5 => some x5) else (if a2 = 3 then ((ald m (P + 8) 10 a1).bind fun x6 => some x6) else (if a2 = 4 then ((ald m (P + 9) 10 a1).bind fun x7 => some x7) else (if a2 = 5 then ((ald m 7 10 a1).bind fun x8 => some x8) else (if a2 = 6 then ((f_X0_isOnDoor F m 10 a1).bind fun x9 => if x9 = 0 then (some 0) else (some 1)) else (some (-1)))))))))
set_option maxHeartbeats 4000000 in
set_option maxRecDepth 100000 in
theorem ct_X8_door (F : Nat) {n : Nat} (hn : 113 ≤ n) (P D : Nat) (T : Option Nat) (hP : isPl P) (m : Mm) (a1 : Int32) (a2 : Int32) : Ct yX8_door cX8_door 3 (some .int) 1 22 [.ref 0, .int a1, .int a2] n n m (RF P D T) (rP m (RF P D T) (f_X8_door F m P a1 a2)) := by
  refine Ct.ofP (own := RX8) (nm := "door") [(0, .ref 0), (1, .int a1), (2, .int a2)] (by decide) (Nat.le_of_ble_eq_true rfl) rfl rfl rfl ?_
  unfold f_X8_door
  refine J_aload_n 0 0 0 dX8_door_0 rfl rfl ?_
  refine J_iload_n 1 1 a1 dX8_door_1 rfl rfl ?_
  refine J_callVP 0 8 1 [.int a1] dX8_door_2 mv_X8_isDoor mv_X8_isDoorv lk_8_133 (ct_X8_isDoor F hn P D T hP m a1) rfl rfl (by decide) rfl (Nat.lt_of_lt_of_le (Nat.le_of_ble_eq_true rfl) hn) ⟨by decide, by decide⟩ (Nat.le_of_ble_eq_true rfl) (fun x1 => ?_)
  refine J_if_ne 10 dX8_door_5 (by decide) ?_ ?_
  · refine J_iload_n 2 2 a2 dX8_door_10 rfl rfl ?_
    refine J_split (c1 := 0) (fun hs11_0 => ?_) (fun hs11_0 => ?_)
    · refine J_tsIn 52 hs11_0 dX8_door_11 (by decide) (by decide) rfl (by decide) ?_
      refine J_aload_n 0 0 0 dX8_door_52 rfl rfl ?_
      refine J_getR 0 8 9 P dX8_door_53 fl_8_64 rfl rfl (Nat.lt_of_lt_of_le (Nat.le_of_ble_eq_true rfl) hn) rfl ?_
      refine J_getR P 1 8 (P + 5) dX8_door_56 fl_8_136 (layc_Pl_0 hP) rfl (lt_Pl_0 hP hn) (rf_Pl_0_8 hP) ?_
      refine J_iload_n 1 1 a1 dX8_door_59 rfl rfl ?_
      refine J_iald (P + 5) 10 dX8_door_60 (lay_Pl_5 hP) (lt_Pl_5 hP hn) (fun x3 => ?_)
      exact J_iretP dX8_door_61 rfl rfl
    · refine J_split (c1 := 1) (fun hs11_1 => ?_) (fun hs11_1 => ?_)
      · refine J_tsIn 62 hs11_1 dX8_door_11 (by decide) (by decide) rfl (by decide) ?_
        refine J_aload_n 0 0 0 dX8_door_62 rfl rfl ?_
        refine J_getR 0 8 9 P dX8_door_63 fl_8_64 rfl rfl (Nat.lt_of_lt_of_le (Nat.le_of_ble_eq_true rfl) hn) rfl ?_
        refine J_getR P 1 9 (P + 6) dX8_door_66 fl_8_139 (layc_Pl_0 hP) rfl (lt_Pl_0 hP hn) (rf_Pl_0_9 hP) ?_
        refine J_iload_n 1 1 a1 dX8_door_69 rfl rfl ?_
        refine J_iald (P + 6) 10 dX8_door_70 (lay_Pl_6 hP) (lt_Pl_6 hP hn) (fun x4 => ?_)
        exact J_iretP dX8_door_71 rfl rfl
      · refine J_split (c1 := 2) (fun hs11_2 => ?_) (fun hs11_2 => ?_)
        · refine J_tsIn 72 hs11_2 dX8_door_11 (by decide) (by decide) rfl (by decide) ?_
          refine J_aload_n 0 0 0 dX8_door_72 rfl rfl ?_
          refine J_getR 0 8 9 P dX8_door_73 fl_8_64 rfl rfl (Nat.lt_of_lt_of_le (Nat.le_of_ble_eq_true rfl) hn) rfl ?_
          refine J_getR P 1 10 (P + 7) dX8_door_76 fl_8_142 (layc_Pl_0 hP) rfl (lt_Pl_0 hP hn) (rf_Pl_0_10 hP) ?_
          refine J_iload_n 1 1 a1 dX8_door_79 rfl rfl ?_
          refine J_iald (P + 7) 10 dX8_door_80 (lay_Pl_7 hP) (lt_Pl_7 hP hn) (fun x5 => ?_)
          exact J_iretP dX8_door_81 rfl rfl
        · refine J_split (c1 := 3) (fun hs11_3 => ?_) (fun hs11_3 => ?_)
          · refine J_tsIn 82 hs11_3 dX8_door_11 (by decide) (by decide) rfl (by decide) ?_
            refine J_aload_n 0 0 0 dX8_door_82 rfl rfl ?_
            refine J_getR 0 8 9 P dX8_door_83 fl_8_64 rfl rfl (Nat.lt_of_lt_of_le (Nat.le_of_ble_eq_true rfl) hn) rfl ?_
            refine J_getR P 1 11 (P + 8) dX8_door_86 fl_8_145 (layc_Pl_0 hP) rfl (lt_Pl_0 hP hn) (rf_Pl_0_11 hP) ?_
            refine J_iload_n 1 1 a1 dX8_door_89 rfl rfl ?_
            refine J_iald (P + 8) 10 dX8_door_90 (lay_Pl_8 hP) (lt_Pl_8 hP hn) (fun x6 => ?_)
            exact J_iretP dX8_door_91 rfl rfl
          · refine J_split (c1 := 4) (fun hs11_4 => ?_) (fun hs11_4 => ?_)
            · refine J_tsIn 92 hs11_4 dX8_door_11 (by decide) (by decide) rfl (by decide) ?_
              refine J_aload_n 0 0 0 dX8_door_92 rfl rfl ?_
              refine J_getR 0 8 9 P dX8_door_93 fl_8_64 rfl rfl (Nat.lt_of_lt_of_le (Nat.le_of_ble_eq_true rfl) hn) rfl ?_
              refine J_getR P 1 12 (P + 9) dX8_door_96 fl_8_148 (layc_Pl_0 hP) rfl (lt_Pl_0 hP hn) (rf_Pl_0_12 hP) ?_
              refine J_iload_n 1 1 a1 dX8_door_99 rfl rfl ?_
              refine J_iald (P + 9) 10 dX8_door_100 (lay_Pl_9 hP) (lt_Pl_9 hP hn) (fun x7 => ?_)
              exact J_iretP dX8_door_101 rfl rfl
            · refine J_split (c1 := 5) (fun hs11_5 => ?_) (fun hs11_5 => ?_)
              · refine J_tsIn 102 hs11_5 dX8_door_11 (by decide) (by decide) rfl (by decide) ?_
                refine J_aload_n 0 0 0 dX8_door_102 rfl rfl ?_
                refine J_getR 0 8 1 4 dX8_door_103 fl_8_19 rfl rfl (Nat.lt_of_lt_of_le (Nat.le_of_ble_eq_true rfl) hn) rfl ?_
                refine J_getR 4 7 6 7 dX8_door_106 fl_8_151 rfl rfl (Nat.lt_of_lt_of_le (Nat.le_of_ble_eq_true rfl) hn) rfl ?_
                refine J_iload_n 1 1 a1 dX8_door_109 rfl rfl ?_
                refine J_iald 7 10 dX8_door_110 rfl (Nat.lt_of_lt_of_le (Nat.le_of_ble_eq_true rfl) hn) (fun x8 => ?_)
                exact J_iretP dX8_door_111 rfl rfl
              · refine J_split (c1 := 6) (fun hs11_6 => ?_) (fun hs11_6 => ?_)
                · refine J_tsIn 112 hs11_6 dX8_door_11 (by decide) (by decide) rfl (by decide) ?_
                  refine J_aload_n 0 0 0 dX8_door_112 rfl rfl ?_
                  refine J_getR 0 8 1 4 dX8_door_113 fl_8_19 rfl rfl (Nat.lt_of_lt_of_le (Nat.le_of_ble_eq_true rfl) hn) rfl ?_
                  refine J_getR 4 7 9 10 dX8_door_116 fl_8_154 rfl rfl (Nat.lt_of_lt_of_le (Nat.le_of_ble_eq_true rfl) hn) rfl ?_
                  refine J_iload_n 1 1 a1 dX8_door_119 rfl rfl ?_
                  refine J_callVP 10 0 1 [.int a1] dX8_door_120 mv_X0_isOnDoor mv_X0_isOnDoorv lk_8_158 (ct_X0_isOnDoor F hn P D T m 10 (by simp [isOr]) a1) rfl rfl (by decide) rfl (Nat.lt_of_lt_of_le (Nat.le_of_ble_eq_true rfl) hn) ⟨by decide, by decide⟩ (Nat.le_of_ble_eq_true rfl) (fun x9 => ?_)
                  refine J_if_eq 130 dX8_door_123 (by decide) ?_ ?_
                  · refine J_iconst 0 dX8_door_130 (by decide) ?_
                    exact J_iretP dX8_door_131 rfl rfl
                  · refine J_iconst 1 dX8_door_126 (by decide) ?_
                    refine J_goto 131 dX8_door_127 (by decide) ?_
                    exact J_iretP dX8_door_131 rfl rfl
                · refine J_tsOut 132 dX8_door_11 (ts_out [0, 1, 2, 3, 4, 5, 6] (by decide) (by simp only [List.mem_cons, List.not_mem_nil, or_false, forall_eq_or_imp, forall_eq]; exact ⟨hs11_0, hs11_1, hs11_2, hs11_3, hs11_4, hs11_5, hs11_6⟩)) (by decide) ?_
                  refine J_iconst (-1) dX8_door_132 (by decide) ?_
                  exact J_iretP dX8_door_133 rfl rfl
  · refine J_iconst (-1) dX8_door_8 (by decide) ?_
    exact J_iretP dX8_door_9 rfl rfl
def b_X8_openDoors_4 (m : Mm) (P : Nat) (t1 : Int32 × Int32) : Option ((Int32 × Int32) ⊕ (Int32)) :=
  if (m P 1) ≤ t1.2 then (some (Sum.inr t1.1)) else ((ald m 7 10 t1.2).bind fun x3 => letv (t1.1 ||| (x3 <<< (t1.2 &&& 31))) fun x4 => some (Sum.inl (x4, t1.2 + 1)))
def f_X8_openDoors (F : Nat) (m : Mm) (P : Nat) : Option (Int32) :=
  (iter F (b_X8_openDoors_4 m P) ((0, 0) : Int32 × Int32)).bind (fun e2 : Int32 => some e2)
set_option maxHeartbeats 4000000 in
set_option maxRecDepth 100000 in
theorem ct_X8_openDoors (F : Nat) {n : Nat} (hn : 113 ≤ n) (P D : Nat) (T : Option Nat) (hP : isPl P) (m : Mm)  : Ct yX8_openDoors cX8_openDoors 3 (some .int) 0 0 [.ref 0] n n m (RF P D T) (rP m (RF P D T) (f_X8_openDoors F m P)) := by
  refine Ct.ofP (own := RX8) (nm := "openDoors") [(0, .ref 0)] (by decide) (Nat.le_of_ble_eq_true rfl) rfl rfl rfl ?_
  unfold f_X8_openDoors
  refine J_iconst 0 dX8_openDoors_0 (by decide) ?_
  refine J_istore_n 1 [(1, .int 0), (0, .ref 0)] dX8_openDoors_1 rfl (by decide) rfl ?_
  refine J_iconst 0 dX8_openDoors_2 (by decide) ?_
  refine J_istore_n 2 [(2, .int 0), (1, .int 0), (0, .ref 0)] dX8_openDoors_3 rfl (by decide) rfl ?_
  refine J_lv [2, 1, 0] rfl ?_
  refine J_loop (pc := 4) (fun t1 : Int32 × Int32 => [(0, .ref 0), (1, .int t1.1), (2, .int t1.2)]) (fun t1 => m) (fun _ => 35) (fun e2 => [(1, .int e2)]) (fun _ => []) (fun e2 => m) ?_ (fun t1 k1 hBt1 hXt1 => ?_) F ((0, 0))
  · refine fun e2 => ?_
    refine J_iload_n 1 0 e2 dX8_openDoors_35 rfl rfl ?_
    exact J_iretP dX8_openDoors_36 rfl rfl
  · unfold b_X8_openDoors_4
    refine J_iload_n 2 2 t1.2 dX8_openDoors_4 rfl rfl ?_
    refine J_aload_n 0 0 0 dX8_openDoors_5 rfl rfl ?_
    refine J_getR 0 8 9 P dX8_openDoors_6 fl_8_64 rfl rfl (Nat.lt_of_lt_of_le (Nat.le_of_ble_eq_true rfl) hn) rfl ?_
    refine J_getI P 1 1 dX8_openDoors_9 fl_8_290 (layc_Pl_0 hP) rfl (lt_Pl_0 hP hn) ?_
    refine J_icmp_ge 35 dX8_openDoors_12 (by decide) ?_ ?_
    · exact J_lv [1] rfl (hXt1 t1.1)
    · refine J_iload_n 1 1 t1.1 dX8_openDoors_15 rfl rfl ?_
      refine J_aload_n 0 0 0 dX8_openDoors_16 rfl rfl ?_
      refine J_getR 0 8 1 4 dX8_openDoors_17 fl_8_19 rfl rfl (Nat.lt_of_lt_of_le (Nat.le_of_ble_eq_true rfl) hn) rfl ?_
      refine J_getR 4 7 6 7 dX8_openDoors_20 fl_8_151 rfl rfl (Nat.lt_of_lt_of_le (Nat.le_of_ble_eq_true rfl) hn) rfl ?_
      refine J_iload_n 2 2 t1.2 dX8_openDoors_23 rfl rfl ?_
      refine J_iald 7 10 dX8_openDoors_24 rfl (Nat.lt_of_lt_of_le (Nat.le_of_ble_eq_true rfl) hn) (fun x3 => ?_)
      refine J_iload_n 2 2 t1.2 dX8_openDoors_25 rfl rfl ?_
      refine J_ishl dX8_openDoors_26 ?_
      refine J_ior dX8_openDoors_27 ?_
      refine J_let (fun x4 => ?_)
      refine J_istore_n 1 [(1, .int x4), (0, .ref 0), (2, .int t1.2)] dX8_openDoors_28 rfl (by decide) rfl ?_
      refine J_iinc 2 2 [(2, .int (t1.2 + 1)), (1, .int x4), (0, .ref 0)] t1.2 (t1.2 + 1) dX8_openDoors_29 rfl rfl (by decide) rfl ?_
      refine J_goto 4 dX8_openDoors_32 (by decide) ?_
      exact J_lv [2, 1, 0] rfl (hBt1 (x4, t1.2 + 1))
def b_X8_reachedFrom_20 (m : Mm) (P : Nat) (a2 : Int32) (t3 : Int32 × Int32) : Option ((Int32 × Int32) ⊕ (Int32)) :=
  if (m P 1) ≤ t3.2 then (some (Sum.inr t3.1)) else ((ald m (P + 5) 10 t3.2).bind fun x5 => (ald m (P + 6) 10 t3.2).bind fun x6 => letv (((1 : Int32) <<< (x5 &&& 31)) ||| ((1 : Int32) <<< (x6 &&& 31))) fun x7 => (if ((a2 >>> (t3.2 &&& 31)) &&& (1 : Int32)) = (1 : Int32) then (if (t3.1 &&& x7) = 0 then (some t3.1) else (letv (t3.1 ||| x7) fun x9 => some x9)) else (some t3.1) : Option (Int32)).bind fun y8 => some (Sum.inl (y8, t3.2 + 1)))
def b_X8_reachedFrom_5 (F : Nat) (m : Mm) (P : Nat) (a2 : Int32) (t1 : Int32 × Int32) : Option ((Int32 × Int32) ⊕ (Int32)) :=
  if (m P 0) ≤ t1.2 then (some (Sum.inr t1.1)) else ((iter F (b_X8_reachedFrom_20 m P a2) ((t1.1, 0) : Int32 × Int32)).bind (fun e4 : Int32 => some (Sum.inl (e4, t1.2 + 1))))
def f_X8_reachedFrom (F : Nat) (m : Mm) (P : Nat) (a1 : Int32) (a2 : Int32) : Option (Int32) :=
  (iter F (b_X8_reachedFrom_5 F m P a2) ((a1, 0) : Int32 × Int32)).bind (fun e2 : Int32 => some e2)
set_option maxHeartbeats 4000000 in
set_option maxRecDepth 100000 in
theorem ct_X8_reachedFrom (F : Nat) {n : Nat} (hn : 113 ≤ n) (P D : Nat) (T : Option Nat) (hP : isPl P) (m : Mm) (a1 : Int32) (a2 : Int32) : Ct yX8_reachedFrom cX8_reachedFrom 7 (some .int) 0 0 [.ref 0, .int a1, .int a2] n n m (RF P D T) (rP m (RF P D T) (f_X8_reachedFrom F m P a1 a2)) := by
  refine Ct.ofP (own := RX8) (nm := "reachedFrom") [(0, .ref 0), (1, .int a1), (2, .int a2)] (by decide) (Nat.le_of_ble_eq_true rfl) rfl rfl rfl ?_
  unfold f_X8_reachedFrom
  refine J_iload_n 1 1 a1 dX8_reachedFrom_0 rfl rfl ?_
  refine J_istore_n 3 [(3, .int a1), (0, .ref 0), (1, .int a1), (2, .int a2)] dX8_reachedFrom_1 rfl (by decide) rfl ?_
  refine J_iconst 0 dX8_reachedFrom_2 (by decide) ?_
  refine J_istore 4 [(4, .int 0), (3, .int a1), (0, .ref 0), (1, .int a1), (2, .int a2)] dX8_reachedFrom_3 (by decide) rfl ?_
  refine J_lv [2, 4, 1, 0] rfl ?_
  refine J_loop (pc := 5) (fun t1 : Int32 × Int32 => [(0, .ref 0), (2, .int a2), (3, .int t1.1), (4, .int t1.2)]) (fun t1 => m) (fun _ => 93) (fun e2 => [(3, .int e2)]) (fun _ => []) (fun e2 => m) ?_ (fun t1 k1 hBt1 hXt1 => ?_) F ((a1, 0))
  · refine fun e2 => ?_
    refine J_iload_n 3 0 e2 dX8_reachedFrom_93 rfl rfl ?_
    exact J_iretP dX8_reachedFrom_94 rfl rfl
  · unfold b_X8_reachedFrom_5
    refine J_iload 4 3 t1.2 dX8_reachedFrom_5 rfl ?_
    refine J_aload_n 0 0 0 dX8_reachedFrom_7 rfl rfl ?_
    refine J_getR 0 8 9 P dX8_reachedFrom_8 fl_8_64 rfl rfl (Nat.lt_of_lt_of_le (Nat.le_of_ble_eq_true rfl) hn) rfl ?_
    refine J_getI P 1 0 dX8_reachedFrom_11 fl_8_297 (layc_Pl_0 hP) rfl (lt_Pl_0 hP hn) ?_
    refine J_icmp_ge 93 dX8_reachedFrom_14 (by decide) ?_ ?_
    · exact J_lv [2] rfl (hXt1 t1.1)
    · refine J_iconst 0 dX8_reachedFrom_17 (by decide) ?_
      refine J_istore 5 [(5, .int 0), (0, .ref 0), (2, .int a2), (3, .int t1.1), (4, .int t1.2)] dX8_reachedFrom_18 (by decide) rfl ?_
      refine J_lv [1, 2, 3, 4, 0] rfl ?_
      refine J_loop (pc := 20) (fun t3 : Int32 × Int32 => [(0, .ref 0), (2, .int a2), (3, .int t3.1), (4, .int t1.2), (5, .int t3.2)]) (fun t3 => m) (fun _ => 87) (fun e4 => [(0, .ref 0), (2, .int a2), (3, .int e4), (4, .int t1.2)]) (fun _ => []) (fun e4 => m) ?_ (fun t3 k1 hBt3 hXt3 => ?_) F ((t1.1, 0))
      · refine fun e4 => ?_
        refine J_iinc 4 3 [(4, .int (t1.2 + 1)), (0, .ref 0), (2, .int a2), (3, .int e4)] t1.2 (t1.2 + 1) dX8_reachedFrom_87 rfl rfl (by decide) rfl ?_
        refine J_goto 5 dX8_reachedFrom_90 (by decide) ?_
        exact J_lv [1, 2, 3, 0] rfl (hBt1 (e4, t1.2 + 1))
      · unfold b_X8_reachedFrom_20
        refine J_iload 5 4 t3.2 dX8_reachedFrom_20 rfl ?_
        refine J_aload_n 0 0 0 dX8_reachedFrom_22 rfl rfl ?_
        refine J_getR 0 8 9 P dX8_reachedFrom_23 fl_8_64 rfl rfl (Nat.lt_of_lt_of_le (Nat.le_of_ble_eq_true rfl) hn) rfl ?_
        refine J_getI P 1 1 dX8_reachedFrom_26 fl_8_290 (layc_Pl_0 hP) rfl (lt_Pl_0 hP hn) ?_
        refine J_icmp_ge 87 dX8_reachedFrom_29 (by decide) ?_ ?_
        · exact J_lv [0, 1, 2, 3] rfl (hXt3 t3.1)
        · refine J_iconst 1 dX8_reachedFrom_32 (by decide) ?_
          refine J_aload_n 0 0 0 dX8_reachedFrom_33 rfl rfl ?_
          refine J_getR 0 8 9 P dX8_reachedFrom_34 fl_8_64 rfl rfl (Nat.lt_of_lt_of_le (Nat.le_of_ble_eq_true rfl) hn) rfl ?_
          refine J_getR P 1 8 (P + 5) dX8_reachedFrom_37 fl_8_136 (layc_Pl_0 hP) rfl (lt_Pl_0 hP hn) (rf_Pl_0_8 hP) ?_
          refine J_iload 5 4 t3.2 dX8_reachedFrom_40 rfl ?_
          refine J_iald (P + 5) 10 dX8_reachedFrom_42 (lay_Pl_5 hP) (lt_Pl_5 hP hn) (fun x5 => ?_)
          refine J_ishl dX8_reachedFrom_43 ?_
          refine J_iconst 1 dX8_reachedFrom_44 (by decide) ?_
          refine J_aload_n 0 0 0 dX8_reachedFrom_45 rfl rfl ?_
          refine J_getR 0 8 9 P dX8_reachedFrom_46 fl_8_64 rfl rfl (Nat.lt_of_lt_of_le (Nat.le_of_ble_eq_true rfl) hn) rfl ?_
          refine J_getR P 1 9 (P + 6) dX8_reachedFrom_49 fl_8_139 (layc_Pl_0 hP) rfl (lt_Pl_0 hP hn) (rf_Pl_0_9 hP) ?_
          refine J_iload 5 4 t3.2 dX8_reachedFrom_52 rfl ?_
          refine J_iald (P + 6) 10 dX8_reachedFrom_54 (lay_Pl_6 hP) (lt_Pl_6 hP hn) (fun x6 => ?_)
          refine J_ishl dX8_reachedFrom_55 ?_
          refine J_ior dX8_reachedFrom_56 ?_
          refine J_let (fun x7 => ?_)
          refine J_istore 6 [(6, .int x7), (0, .ref 0), (2, .int a2), (3, .int t3.1), (4, .int t1.2), (5, .int t3.2)] dX8_reachedFrom_57 (by decide) rfl ?_
          refine J_iload_n 2 2 a2 dX8_reachedFrom_59 rfl rfl ?_
          refine J_iload 5 5 t3.2 dX8_reachedFrom_60 rfl ?_
          refine J_ishr dX8_reachedFrom_62 ?_
          refine J_iconst 1 dX8_reachedFrom_63 (by decide) ?_
          refine J_iand dX8_reachedFrom_64 ?_
          refine J_iconst 1 dX8_reachedFrom_65 (by decide) ?_
          refine J_seqJ 81 (fun y8 : Int32 => [(0, .ref 0), (2, .int a2), (3, .int y8), (4, .int t1.2), (5, .int t3.2)]) (fun y8 => []) (fun y8 => m) (fun y8 => ?_) (fun k1 hEy8 => ?_)
          · refine J_iinc 5 4 [(5, .int (t3.2 + 1)), (0, .ref 0), (2, .int a2), (3, .int y8), (4, .int t1.2)] t3.2 (t3.2 + 1) dX8_reachedFrom_81 rfl rfl (by decide) rfl ?_
            refine J_goto 20 dX8_reachedFrom_84 (by decide) ?_
            exact J_lv [1, 2, 3, 4, 0] rfl (hBt3 (y8, t3.2 + 1))
          · refine J_icmp_ne 81 dX8_reachedFrom_66 (by decide) ?_ ?_
            · exact J_lv [1, 2, 3, 4, 5] rfl (hEy8 t3.1)
            · refine J_iload_n 3 3 t3.1 dX8_reachedFrom_69 rfl rfl ?_
              refine J_iload 6 0 x7 dX8_reachedFrom_70 rfl ?_
              refine J_iand dX8_reachedFrom_72 ?_
              refine J_if_eq 81 dX8_reachedFrom_73 (by decide) ?_ ?_
              · exact J_lv [1, 2, 3, 4, 5] rfl (hEy8 t3.1)
              · refine J_iload_n 3 3 t3.1 dX8_reachedFrom_76 rfl rfl ?_
                refine J_iload 6 0 x7 dX8_reachedFrom_77 rfl ?_
                refine J_ior dX8_reachedFrom_79 ?_
                refine J_let (fun x9 => ?_)
                refine J_istore_n 3 [(3, .int x9), (6, .int x7), (0, .ref 0), (2, .int a2), (4, .int t1.2), (5, .int t3.2)] dX8_reachedFrom_80 rfl (by decide) rfl ?_
                exact J_lv [2, 3, 0, 4, 5] rfl (hEy8 x9)
def b_X8_fewestDoorsAround_11 (F : Nat) (m : Mm) (P : Nat) (a1 : Int32) (a2 : Int32) (x1 : Int32) (t3 : Int32 × Int32) : Option ((Int32 × Int32) ⊕ (Int32)) :=
  if ((1 : Int32) <<< ((m P 1) &&& 31)) ≤ t3.2 then (some (Sum.inr t3.1)) else ((f_J6_bitCount t3.2).bind fun x5 => (f_J6_bitCount t3.1).bind fun x7 => (if x7 ≤ x5 then (some 0) else (some 1) : Option (Int32)).bind fun y9 => (if y9 = 0 then (some t3.1) else (if (t3.2 &&& (x1 ^^^ ((-1) : Int32))) = 0 then ((f_X8_reachedFrom F m P a2 (x1 &&& (t3.2 ^^^ ((-1) : Int32)))).bind fun x11 => if ((x11 >>> (a1 &&& 31)) &&& (1 : Int32)) = 0 then (some t3.2) else (some t3.1)) else (some t3.1)) : Option (Int32)).bind fun y10 => some (Sum.inl (y10, t3.2 + 1)))
def f_X8_fewestDoorsAround (F : Nat) (m : Mm) (P : Nat) (a1 : Int32) (a2 : Int32) : Option (Int32) :=
  (f_X8_openDoors F m P).bind fun x1 => (iter F (b_X8_fewestDoorsAround_11 F m P a1 a2 x1) ((x1, 0) : Int32 × Int32)).bind (fun e4 : Int32 => some e4)
set_option maxHeartbeats 4000000 in
set_option maxRecDepth 100000 in
theorem ct_X8_fewestDoorsAround (F : Nat) {n : Nat} (hn : 113 ≤ n) (P D : Nat) (T : Option Nat) (hP : isPl P) (m : Mm) (a1 : Int32) (a2 : Int32) : Ct yX8_fewestDoorsAround cX8_fewestDoorsAround 7 (some .int) 1 26 [.ref 0, .int a1, .int a2] n n m (RF P D T) (rP m (RF P D T) (f_X8_fewestDoorsAround F m P a1 a2)) := by
  refine Ct.ofP (own := RX8) (nm := "fewestDoorsAround") [(0, .ref 0), (1, .int a1), (2, .int a2)] (by decide) (Nat.le_of_ble_eq_true rfl) rfl rfl rfl ?_
  unfold f_X8_fewestDoorsAround
  refine J_aload_n 0 0 0 dX8_fewestDoorsAround_0 rfl rfl ?_
  refine J_callVP 0 8 0 [] dX8_fewestDoorsAround_1 mv_X8_openDoors mv_X8_openDoorsv lk_8_314 (ct_X8_openDoors F hn P D T hP m) rfl rfl (by decide) rfl (Nat.lt_of_lt_of_le (Nat.le_of_ble_eq_true rfl) hn) ⟨by decide, by decide⟩ (Nat.le_of_ble_eq_true rfl) (fun x1 => ?_)
  refine J_istore_n 3 [(3, .int x1), (0, .ref 0), (1, .int a1), (2, .int a2)] dX8_fewestDoorsAround_4 rfl (by decide) rfl ?_
  refine J_iload_n 3 0 x1 dX8_fewestDoorsAround_5 rfl rfl ?_
  refine J_istore 4 [(4, .int x1), (3, .int x1), (0, .ref 0), (1, .int a1), (2, .int a2)] dX8_fewestDoorsAround_6 (by decide) rfl ?_
  refine J_iconst 0 dX8_fewestDoorsAround_8 (by decide) ?_
  refine J_istore 5 [(5, .int 0), (4, .int x1), (3, .int x1), (0, .ref 0), (1, .int a1), (2, .int a2)] dX8_fewestDoorsAround_9 (by decide) rfl ?_
  refine J_lv [3, 4, 5, 2, 1, 0] rfl ?_
  refine J_loop (pc := 11) (fun t3 : Int32 × Int32 => [(0, .ref 0), (1, .int a1), (2, .int a2), (3, .int x1), (4, .int t3.1), (5, .int t3.2)]) (fun t3 => m) (fun _ => 87) (fun e4 => [(4, .int e4)]) (fun _ => []) (fun e4 => m) ?_ (fun t3 k1 hBt3 hXt3 => ?_) F ((x1, 0))
  · refine fun e4 => ?_
    refine J_iload 4 0 e4 dX8_fewestDoorsAround_87 rfl ?_
    exact J_iretP dX8_fewestDoorsAround_89 rfl rfl
  · unfold b_X8_fewestDoorsAround_11
    refine J_iload 5 5 t3.2 dX8_fewestDoorsAround_11 rfl ?_
    refine J_iconst 1 dX8_fewestDoorsAround_13 (by decide) ?_
    refine J_aload_n 0 0 0 dX8_fewestDoorsAround_14 rfl rfl ?_
    refine J_getR 0 8 9 P dX8_fewestDoorsAround_15 fl_8_64 rfl rfl (Nat.lt_of_lt_of_le (Nat.le_of_ble_eq_true rfl) hn) rfl ?_
    refine J_getI P 1 1 dX8_fewestDoorsAround_18 fl_8_290 (layc_Pl_0 hP) rfl (lt_Pl_0 hP hn) ?_
    refine J_ishl dX8_fewestDoorsAround_21 ?_
    refine J_icmp_ge 87 dX8_fewestDoorsAround_22 (by decide) ?_ ?_
    · exact J_lv [4] rfl (hXt3 t3.1)
    · refine J_iload 5 5 t3.2 dX8_fewestDoorsAround_25 rfl ?_
      refine J_callSP 1 [.int t3.2] dX8_fewestDoorsAround_27 mv_J6_bitCount mv_J6_bitCounts lk_8_306 (ct_J6_bitCount m (RF P D T) t3.2) rfl ⟨by decide, by decide⟩ (Nat.le_of_ble_eq_true rfl) (fun x5 => ?_)
      refine J_iload 4 4 t3.1 dX8_fewestDoorsAround_30 rfl ?_
      refine J_callSP 1 [.int t3.1] dX8_fewestDoorsAround_32 mv_J6_bitCount mv_J6_bitCounts lk_8_306 (ct_J6_bitCount m (RF P D T) t3.1) rfl ⟨by decide, by decide⟩ (Nat.le_of_ble_eq_true rfl) (fun x7 => ?_)
      refine J_seqJ 43 (fun y9 : Int32 => [(0, .ref 0), (1, .int a1), (2, .int a2), (3, .int x1), (4, .int t3.1), (5, .int t3.2)]) (fun y9 => [.int y9]) (fun y9 => m) (fun y9 => ?_) (fun k1 hEy9 => ?_)
      · refine J_istore 6 [(6, .int y9), (0, .ref 0), (1, .int a1), (2, .int a2), (3, .int x1), (4, .int t3.1), (5, .int t3.2)] dX8_fewestDoorsAround_43 (by decide) rfl ?_
        refine J_iload 6 0 y9 dX8_fewestDoorsAround_45 rfl ?_
        refine J_seqJ 81 (fun y10 : Int32 => [(0, .ref 0), (1, .int a1), (2, .int a2), (3, .int x1), (4, .int y10), (5, .int t3.2)]) (fun y10 => []) (fun y10 => m) (fun y10 => ?_) (fun k1 hEy10 => ?_)
        · refine J_iinc 5 5 [(5, .int (t3.2 + 1)), (0, .ref 0), (1, .int a1), (2, .int a2), (3, .int x1), (4, .int y10)] t3.2 (t3.2 + 1) dX8_fewestDoorsAround_81 rfl rfl (by decide) rfl ?_
          refine J_goto 11 dX8_fewestDoorsAround_84 (by decide) ?_
          exact J_lv [1, 2, 3, 4, 5, 0] rfl (hBt3 (y10, t3.2 + 1))
        · refine J_if_eq 81 dX8_fewestDoorsAround_47 (by decide) ?_ ?_
          · exact J_lv [1, 2, 3, 4, 5, 6] rfl (hEy10 t3.1)
          · refine J_iload 5 6 t3.2 dX8_fewestDoorsAround_50 rfl ?_
            refine J_iload_n 3 4 x1 dX8_fewestDoorsAround_52 rfl rfl ?_
            refine J_iconst (-1) dX8_fewestDoorsAround_53 (by decide) ?_
            refine J_ixor dX8_fewestDoorsAround_54 ?_
            refine J_iand dX8_fewestDoorsAround_55 ?_
            refine J_if_ne 81 dX8_fewestDoorsAround_56 (by decide) ?_ ?_
            · exact J_lv [1, 2, 3, 4, 5, 6] rfl (hEy10 t3.1)
            · refine J_aload_n 0 1 0 dX8_fewestDoorsAround_59 rfl rfl ?_
              refine J_iload_n 2 3 a2 dX8_fewestDoorsAround_60 rfl rfl ?_
              refine J_iload_n 3 4 x1 dX8_fewestDoorsAround_61 rfl rfl ?_
              refine J_iload 5 6 t3.2 dX8_fewestDoorsAround_62 rfl ?_
              refine J_iconst (-1) dX8_fewestDoorsAround_64 (by decide) ?_
              refine J_ixor dX8_fewestDoorsAround_65 ?_
              refine J_iand dX8_fewestDoorsAround_66 ?_
              refine J_callVP 0 8 2 [.int a2, .int (x1 &&& (t3.2 ^^^ ((-1) : Int32)))] dX8_fewestDoorsAround_67 mv_X8_reachedFrom mv_X8_reachedFromv lk_8_317 (ct_X8_reachedFrom F hn P D T hP m a2 (x1 &&& (t3.2 ^^^ ((-1) : Int32)))) rfl rfl (by decide) rfl (Nat.lt_of_lt_of_le (Nat.le_of_ble_eq_true rfl) hn) ⟨by decide, by decide⟩ (Nat.le_of_ble_eq_true rfl) (fun x11 => ?_)
              refine J_iload_n 1 2 a1 dX8_fewestDoorsAround_70 rfl rfl ?_
              refine J_ishr dX8_fewestDoorsAround_71 ?_
              refine J_iconst 1 dX8_fewestDoorsAround_72 (by decide) ?_
              refine J_iand dX8_fewestDoorsAround_73 ?_
              refine J_if_ne 81 dX8_fewestDoorsAround_74 (by decide) ?_ ?_
              · exact J_lv [1, 2, 3, 4, 5, 6] rfl (hEy10 t3.1)
              · refine J_iload 5 6 t3.2 dX8_fewestDoorsAround_77 rfl ?_
                refine J_istore 4 [(4, .int t3.2), (6, .int y9), (0, .ref 0), (1, .int a1), (2, .int a2), (3, .int x1), (5, .int t3.2)] dX8_fewestDoorsAround_79 (by decide) rfl ?_
                exact J_lv [2, 3, 4, 5, 0, 6] rfl (hEy10 t3.2)
      · refine J_icmp_ge 42 dX8_fewestDoorsAround_35 (by decide) ?_ ?_
        · refine J_iconst 0 dX8_fewestDoorsAround_42 (by decide) ?_
          exact J_lv [0, 1, 2, 3, 4, 5] rfl (hEy9 0)
        · refine J_iconst 1 dX8_fewestDoorsAround_38 (by decide) ?_
          refine J_goto 43 dX8_fewestDoorsAround_39 (by decide) ?_
          exact J_lv [0, 1, 2, 3, 4, 5] rfl (hEy9 1)
def b_X8_holdsWithHoles_4 (m : Mm) (P : Nat) (t1 : Int32 × Int32) : Option ((Int32 × Int32) ⊕ (Int32)) :=
  if (m P 2) ≤ t1.2 then (some (Sum.inr t1.1)) else ((ald m (P + 11) 4 t1.2).bind fun x3 => letv (t1.1 ||| ((1 : Int32) <<< (x3 &&& 31))) fun x4 => some (Sum.inl (x4, t1.2 + 1)))
def f_X8_holdsWithHoles (F : Nat) (m : Mm) (P : Nat) : Option (Int32) :=
  (iter F (b_X8_holdsWithHoles_4 m P) ((0, 0) : Int32 × Int32)).bind (fun e2 : Int32 => some e2)
set_option maxHeartbeats 4000000 in
set_option maxRecDepth 100000 in
theorem ct_X8_holdsWithHoles (F : Nat) {n : Nat} (hn : 113 ≤ n) (P D : Nat) (T : Option Nat) (hP : isPl P) (m : Mm)  : Ct yX8_holdsWithHoles cX8_holdsWithHoles 3 (some .int) 0 0 [.ref 0] n n m (RF P D T) (rP m (RF P D T) (f_X8_holdsWithHoles F m P)) := by
  refine Ct.ofP (own := RX8) (nm := "holdsWithHoles") [(0, .ref 0)] (by decide) (Nat.le_of_ble_eq_true rfl) rfl rfl rfl ?_
  unfold f_X8_holdsWithHoles
  refine J_iconst 0 dX8_holdsWithHoles_0 (by decide) ?_
  refine J_istore_n 1 [(1, .int 0), (0, .ref 0)] dX8_holdsWithHoles_1 rfl (by decide) rfl ?_
  refine J_iconst 0 dX8_holdsWithHoles_2 (by decide) ?_
  refine J_istore_n 2 [(2, .int 0), (1, .int 0), (0, .ref 0)] dX8_holdsWithHoles_3 rfl (by decide) rfl ?_
  refine J_lv [2, 1, 0] rfl ?_
  refine J_loop (pc := 4) (fun t1 : Int32 × Int32 => [(0, .ref 0), (1, .int t1.1), (2, .int t1.2)]) (fun t1 => m) (fun _ => 35) (fun e2 => [(1, .int e2)]) (fun _ => []) (fun e2 => m) ?_ (fun t1 k1 hBt1 hXt1 => ?_) F ((0, 0))
  · refine fun e2 => ?_
    refine J_iload_n 1 0 e2 dX8_holdsWithHoles_35 rfl rfl ?_
    exact J_iretP dX8_holdsWithHoles_36 rfl rfl
  · unfold b_X8_holdsWithHoles_4
    refine J_iload_n 2 2 t1.2 dX8_holdsWithHoles_4 rfl rfl ?_
    refine J_aload_n 0 0 0 dX8_holdsWithHoles_5 rfl rfl ?_
    refine J_getR 0 8 9 P dX8_holdsWithHoles_6 fl_8_64 rfl rfl (Nat.lt_of_lt_of_le (Nat.le_of_ble_eq_true rfl) hn) rfl ?_
    refine J_getI P 1 2 dX8_holdsWithHoles_9 fl_8_353 (layc_Pl_0 hP) rfl (lt_Pl_0 hP hn) ?_
    refine J_icmp_ge 35 dX8_holdsWithHoles_12 (by decide) ?_ ?_
    · exact J_lv [1] rfl (hXt1 t1.1)
    · refine J_iload_n 1 1 t1.1 dX8_holdsWithHoles_15 rfl rfl ?_
      refine J_iconst 1 dX8_holdsWithHoles_16 (by decide) ?_
      refine J_aload_n 0 0 0 dX8_holdsWithHoles_17 rfl rfl ?_
      refine J_getR 0 8 9 P dX8_holdsWithHoles_18 fl_8_64 rfl rfl (Nat.lt_of_lt_of_le (Nat.le_of_ble_eq_true rfl) hn) rfl ?_
      refine J_getR P 1 14 (P + 11) dX8_holdsWithHoles_21 fl_8_166 (layc_Pl_0 hP) rfl (lt_Pl_0 hP hn) (rf_Pl_0_14 hP) ?_
      refine J_iload_n 2 2 t1.2 dX8_holdsWithHoles_24 rfl rfl ?_
      refine J_iald (P + 11) 4 dX8_holdsWithHoles_25 (lay_Pl_11 hP) (lt_Pl_11 hP hn) (fun x3 => ?_)
      refine J_ishl dX8_holdsWithHoles_26 ?_
      refine J_ior dX8_holdsWithHoles_27 ?_
      refine J_let (fun x4 => ?_)
      refine J_istore_n 1 [(1, .int x4), (0, .ref 0), (2, .int t1.2)] dX8_holdsWithHoles_28 rfl (by decide) rfl ?_
      refine J_iinc 2 2 [(2, .int (t1.2 + 1)), (1, .int x4), (0, .ref 0)] t1.2 (t1.2 + 1) dX8_holdsWithHoles_29 rfl rfl (by decide) rfl ?_
      refine J_goto 4 dX8_holdsWithHoles_32 (by decide) ?_
      exact J_lv [2, 1, 0] rfl (hBt1 (x4, t1.2 + 1))
def f_X8_dry (F : Nat) (m : Mm) (P : Nat) (a1 : Int32) (a2 : Int32) : Option (Int32) :=
  (f_X8_isHold m P a1).bind fun x1 => if x1 = 0 then (some (-1)) else (if a2 < 0 then (some (-1)) else (if a2 ≤ (1 : Int32) then ((f_X8_holdsWithHoles F m P).bind fun x3 => if ((x3 >>> (a1 &&& 31)) &&& (1 : Int32)) = (1 : Int32) then (some (-4)) else ((f_X8_fewestDoorsAround F m P a1 x3).bind fun x5 => if a2 = 0 then ((f_J6_bitCount x5).bind fun x7 => some x7) else (some x5))) else (some (-1))))
set_option maxHeartbeats 4000000 in
set_option maxRecDepth 100000 in
theorem ct_X8_dry (F : Nat) {n : Nat} (hn : 113 ≤ n) (P D : Nat) (T : Option Nat) (hP : isPl P) (m : Mm) (a1 : Int32) (a2 : Int32) : Ct yX8_dry cX8_dry 5 (some .int) 2 52 [.ref 0, .int a1, .int a2] n n m (RF P D T) (rP m (RF P D T) (f_X8_dry F m P a1 a2)) := by
  refine Ct.ofP (own := RX8) (nm := "dry") [(0, .ref 0), (1, .int a1), (2, .int a2)] (by decide) (Nat.le_of_ble_eq_true rfl) rfl rfl rfl ?_
  unfold f_X8_dry
  refine J_aload_n 0 0 0 dX8_dry_0 rfl rfl ?_
  refine J_iload_n 1 1 a1 dX8_dry_1 rfl rfl ?_
  refine J_callVP 0 8 1 [.int a1] dX8_dry_2 mv_X8_isHold mv_X8_isHoldv lk_8_109 (ct_X8_isHold F hn P D T hP m a1) rfl rfl (by decide) rfl (Nat.lt_of_lt_of_le (Nat.le_of_ble_eq_true rfl) hn) ⟨by decide, by decide⟩ (Nat.le_of_ble_eq_true rfl) (fun x1 => ?_)
  refine J_if_eq 17 dX8_dry_5 (by decide) ?_ ?_
  · refine J_iconst (-1) dX8_dry_17 (by decide) ?_
    exact J_iretP dX8_dry_18 rfl rfl
  · refine J_iload_n 2 2 a2 dX8_dry_8 rfl rfl ?_
    refine J_if_lt 17 dX8_dry_9 (by decide) ?_ ?_
    · refine J_iconst (-1) dX8_dry_17 (by decide) ?_
      exact J_iretP dX8_dry_18 rfl rfl
    · refine J_iload_n 2 2 a2 dX8_dry_12 rfl rfl ?_
      refine J_iconst 1 dX8_dry_13 (by decide) ?_
      refine J_icmp_le 19 dX8_dry_14 (by decide) ?_ ?_
      · refine J_aload_n 0 0 0 dX8_dry_19 rfl rfl ?_
        refine J_callVP 0 8 0 [] dX8_dry_20 mv_X8_holdsWithHoles mv_X8_holdsWithHolesv lk_8_320 (ct_X8_holdsWithHoles F hn P D T hP m) rfl rfl (by decide) rfl (Nat.lt_of_lt_of_le (Nat.le_of_ble_eq_true rfl) hn) ⟨by decide, by decide⟩ (Nat.le_of_ble_eq_true rfl) (fun x3 => ?_)
        refine J_istore_n 3 [(3, .int x3), (0, .ref 0), (1, .int a1), (2, .int a2)] dX8_dry_23 rfl (by decide) rfl ?_
        refine J_iload_n 3 0 x3 dX8_dry_24 rfl rfl ?_
        refine J_iload_n 1 2 a1 dX8_dry_25 rfl rfl ?_
        refine J_ishr dX8_dry_26 ?_
        refine J_iconst 1 dX8_dry_27 (by decide) ?_
        refine J_iand dX8_dry_28 ?_
        refine J_iconst 1 dX8_dry_29 (by decide) ?_
        refine J_icmp_ne 36 dX8_dry_30 (by decide) ?_ ?_
        · refine J_aload_n 0 1 0 dX8_dry_36 rfl rfl ?_
          refine J_iload_n 1 2 a1 dX8_dry_37 rfl rfl ?_
          refine J_iload_n 3 0 x3 dX8_dry_38 rfl rfl ?_
          refine J_callVP 0 8 2 [.int a1, .int x3] dX8_dry_39 mv_X8_fewestDoorsAround mv_X8_fewestDoorsAroundv lk_8_323 (ct_X8_fewestDoorsAround F hn P D T hP m a1 x3) rfl rfl (by decide) rfl (Nat.lt_of_lt_of_le (Nat.le_of_ble_eq_true rfl) hn) ⟨by decide, by decide⟩ (Nat.le_of_ble_eq_true rfl) (fun x5 => ?_)
          refine J_istore 4 [(4, .int x5), (3, .int x3), (0, .ref 0), (1, .int a1), (2, .int a2)] dX8_dry_42 (by decide) rfl ?_
          refine J_iload_n 2 4 a2 dX8_dry_44 rfl rfl ?_
          refine J_if_ne 56 dX8_dry_45 (by decide) ?_ ?_
          · refine J_iload 4 0 x5 dX8_dry_56 rfl ?_
            exact J_iretP dX8_dry_58 rfl rfl
          · refine J_iload 4 0 x5 dX8_dry_48 rfl ?_
            refine J_callSP 1 [.int x5] dX8_dry_50 mv_J6_bitCount mv_J6_bitCounts lk_8_306 (ct_J6_bitCount m (RF P D T) x5) rfl ⟨by decide, by decide⟩ (Nat.le_of_ble_eq_true rfl) (fun x7 => ?_)
            refine J_goto 58 dX8_dry_53 (by decide) ?_
            exact J_iretP dX8_dry_58 rfl rfl
        · refine J_bipush (-4) dX8_dry_33 (by decide) ?_
          exact J_iretP dX8_dry_35 rfl rfl
      · refine J_iconst (-1) dX8_dry_17 (by decide) ?_
        exact J_iretP dX8_dry_18 rfl rfl
def f_X8_end (m : Mm) (a1 : Int32) : Option (Int32 × Mm) :=
  bind2 (f_X2_cut m a1) fun x1 m2 => some (x1, m2)
set_option maxHeartbeats 4000000 in
set_option maxRecDepth 100000 in
theorem ct_X8_end (F : Nat) {n : Nat} (hn : 113 ≤ n) (P D : Nat) (T : Option Nat) (m : Mm) (a1 : Int32) : Ct yX8_end cX8_end 2 (some .int) 1 22 [.ref 0, .int a1] n n m (RF P D T) (rI (RF P D T) (f_X8_end m a1)) := by
  refine Ct.ofI (own := RX8) (nm := "end") [(0, .ref 0), (1, .int a1)] (by decide) (Nat.le_of_ble_eq_true rfl) rfl rfl rfl ?_
  unfold f_X8_end
  refine J_aload_n 0 0 0 dX8_end_0 rfl rfl ?_
  refine J_getR 0 8 0 1 dX8_end_1 fl_8_10 rfl rfl (Nat.lt_of_lt_of_le (Nat.le_of_ble_eq_true rfl) hn) rfl ?_
  refine J_iload_n 1 1 a1 dX8_end_4 rfl rfl ?_
  refine J_callVI 1 2 1 [.int a1] dX8_end_5 mv_X2_cut mv_X2_cutv lk_8_83 (ct_X2_cut F hn P D T m a1) rfl rfl (by decide) rfl (Nat.lt_of_lt_of_le (Nat.le_of_ble_eq_true rfl) hn) ⟨by decide, by decide⟩ (Nat.le_of_ble_eq_true rfl) (fun x1 m2 => ?_)
  exact J_iretI dX8_end_8 rfl rfl
def f_X8_fault (m : Mm) : Option (Int32) :=
  some (m 0 11)
set_option maxHeartbeats 4000000 in
set_option maxRecDepth 100000 in
theorem ct_X8_fault (F : Nat) {n : Nat} (hn : 113 ≤ n) (P D : Nat) (T : Option Nat) (m : Mm)  : Ct yX8_fault cX8_fault 1 (some .int) 0 0 [.ref 0] n n m (RF P D T) (rP m (RF P D T) (f_X8_fault m)) := by
  refine Ct.ofP (own := RX8) (nm := "fault") [(0, .ref 0)] (by decide) (Nat.le_of_ble_eq_true rfl) rfl rfl rfl ?_
  unfold f_X8_fault
  refine J_aload_n 0 0 0 dX8_fault_0 rfl rfl ?_
  refine J_getI 0 8 11 dX8_fault_1 fl_8_94 rfl rfl (Nat.lt_of_lt_of_le (Nat.le_of_ble_eq_true rfl) hn) ?_
  exact J_iretP dX8_fault_4 rfl rfl
def f_X8_feed (F : Nat) (m : Mm) (a1 : Int64) : Option (Int32 × Mm) :=
  bind2 (f_X2_append F m a1) fun x1 m2 => some (x1, m2)
set_option maxHeartbeats 4000000 in
set_option maxRecDepth 100000 in
theorem ct_X8_feed (F : Nat) {n : Nat} (hn : 113 ≤ n) (P D : Nat) (T : Option Nat) (m : Mm) (a1 : Int64) : Ct yX8_feed cX8_feed 3 (some .int) 1 23 [.ref 0, .long a1] n n m (RF P D T) (rI (RF P D T) (f_X8_feed F m a1)) := by
  refine Ct.ofI (own := RX8) (nm := "feed") [(0, .ref 0), (1, .long a1)] (by decide) (Nat.le_of_ble_eq_true rfl) rfl rfl rfl ?_
  unfold f_X8_feed
  refine J_aload_n 0 0 0 dX8_feed_0 rfl rfl ?_
  refine J_getR 0 8 0 1 dX8_feed_1 fl_8_10 rfl rfl (Nat.lt_of_lt_of_le (Nat.le_of_ble_eq_true rfl) hn) rfl ?_
  refine J_lload_n 1 1 a1 dX8_feed_4 rfl rfl ?_
  refine J_callVI 1 2 1 [.long a1] dX8_feed_5 mv_X2_append mv_X2_appendv lk_8_79 (ct_X2_append F hn P D T m a1) rfl rfl (by decide) rfl (Nat.lt_of_lt_of_le (Nat.le_of_ble_eq_true rfl) hn) ⟨by decide, by decide⟩ (Nat.le_of_ble_eq_true rfl) (fun x1 m2 => ?_)
  exact J_iretI dX8_feed_8 rfl rfl

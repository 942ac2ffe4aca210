theorem lk_9_196 : Cond.methodLink RX9 196 yX9_readLine ∈ TBg := tb 1181 (by decide +kernel) rfl
theorem lk_9_325 : Cond.methodLink RX9 325 yX9_areHolds ∈ TBg := tb 1425 (by decide +kernel) rfl
theorem lk_9_74 : Cond.methodLink RX9 74 yX9_firstDraft ∈ TBg := tb 991 (by decide +kernel) rfl
theorem lk_9_77 : Cond.methodLink RX9 77 yX9_keepDraft ∈ TBg := tb 995 (by decide +kernel) rfl
theorem mv_X9_areHolds : MV yX9_areHolds cX9_areHolds 2 (some .boolean) 1 := ⟨tb 1428 (by decide +kernel) rfl, tb 13 (by decide +kernel) rfl, by decide +kernel⟩
theorem mv_X9_areHoldsv : Cond.instanceMethod yX9_areHolds ∈ TBg ∧ Cond.selects yX9_areHolds.cls yX9_areHolds yX9_areHolds ∈ TBg := ⟨tb 1427 (by decide +kernel) rfl, tbP (k := 42) 89 (by decide +kernel) rfl⟩
theorem mv_X9_firstDraft : MV yX9_firstDraft cX9_firstDraft 2 none 0 := ⟨tb 994 (by decide +kernel) rfl, tb 13 (by decide +kernel) rfl, by decide +kernel⟩
theorem mv_X9_firstDraftv : Cond.instanceMethod yX9_firstDraft ∈ TBg ∧ Cond.selects yX9_firstDraft.cls yX9_firstDraft yX9_firstDraft ∈ TBg := ⟨tb 993 (by decide +kernel) rfl, tbP (k := 42) 43 (by decide +kernel) rfl⟩
theorem mv_X9_keepDraft : MV yX9_keepDraft cX9_keepDraft 2 none 0 := ⟨tb 998 (by decide +kernel) rfl, tb 13 (by decide +kernel) rfl, by decide +kernel⟩
theorem mv_X9_keepDraftv : Cond.instanceMethod yX9_keepDraft ∈ TBg ∧ Cond.selects yX9_keepDraft.cls yX9_keepDraft yX9_keepDraft ∈ TBg := ⟨tb 997 (by decide +kernel) rfl, tbP (k := 42) 44 (by decide +kernel) rfl⟩
theorem mv_X9_readLine : MV yX9_readLine cX9_readLine 2 none 0 := ⟨tb 1184 (by decide +kernel) rfl, tb 13 (by decide +kernel) rfl, by decide +kernel⟩
theorem mv_X9_readLinev : Cond.instanceMethod yX9_readLine ∈ TBg ∧ Cond.selects yX9_readLine.cls yX9_readLine yX9_readLine ∈ TBg := ⟨tb 1183 (by decide +kernel) rfl, tbP (k := 42) 53 (by decide +kernel) rfl⟩
theorem dX9_text_0 : decode cX9_text 0 = .ok (.iconst 0, 1) := by decide +kernel
theorem dX9_text_1 : decode cX9_text 1 = .ok (.istore_n 1, 1) := by decide +kernel
theorem dX9_text_2 : decode cX9_text 2 = .ok (.aload_n 0, 1) := by decide +kernel
theorem dX9_text_3 : decode cX9_text 3 = .ok (.iconst 0, 1) := by decide +kernel
theorem dX9_text_4 : decode cX9_text 4 = .ok (.putfield 118, 3) := by decide +kernel
theorem dX9_text_7 : decode cX9_text 7 = .ok (.aload_n 0, 1) := by decide +kernel
theorem dX9_text_8 : decode cX9_text 8 = .ok (.iconst 0, 1) := by decide +kernel
theorem dX9_text_9 : decode cX9_text 9 = .ok (.putfield 127, 3) := by decide +kernel
theorem dX9_text_12 : decode cX9_text 12 = .ok (.aload_n 0, 1) := by decide +kernel
theorem dX9_text_13 : decode cX9_text 13 = .ok (.invokevirtual 74, 3) := by decide +kernel
theorem dX9_text_16 : decode cX9_text 16 = .ok (.aload_n 0, 1) := by decide +kernel
theorem dX9_text_17 : decode cX9_text 17 = .ok (.invokevirtual 160, 3) := by decide +kernel
theorem dX9_text_20 : decode cX9_text 20 = .ok (.aload_n 0, 1) := by decide +kernel
theorem dX9_text_21 : decode cX9_text 21 = .ok (.getfield 118, 3) := by decide +kernel
theorem dX9_text_24 : decode cX9_text 24 = .ok (.ifCond .ne 20, 3) := by decide +kernel
theorem dX9_text_27 : decode cX9_text 27 = .ok (.aload_n 0, 1) := by decide +kernel
theorem dX9_text_28 : decode cX9_text 28 = .ok (.getfield 138, 3) := by decide +kernel
theorem dX9_text_31 : decode cX9_text 31 = .ok (.ifCond .eq 13, 3) := by decide +kernel
theorem dX9_text_34 : decode cX9_text 34 = .ok (.aload_n 0, 1) := by decide +kernel
theorem dX9_text_35 : decode cX9_text 35 = .ok (.invokevirtual 196, 3) := by decide +kernel
theorem dX9_text_38 : decode cX9_text 38 = .ok (.iinc 1 1, 3) := by decide +kernel
theorem dX9_text_41 : decode cX9_text 41 = .ok (.goto (-21), 3) := by decide +kernel
theorem dX9_text_44 : decode cX9_text 44 = .ok (.aload_n 0, 1) := by decide +kernel
theorem dX9_text_45 : decode cX9_text 45 = .ok (.iconst 0, 1) := by decide +kernel
theorem dX9_text_46 : decode cX9_text 46 = .ok (.putfield 109, 3) := by decide +kernel
theorem dX9_text_49 : decode cX9_text 49 = .ok (.aload_n 0, 1) := by decide +kernel
theorem dX9_text_50 : decode cX9_text 50 = .ok (.getfield 118, 3) := by decide +kernel
theorem dX9_text_53 : decode cX9_text 53 = .ok (.ifCond .le 11, 3) := by decide +kernel
theorem dX9_text_56 : decode cX9_text 56 = .ok (.bipush (-10), 2) := by decide +kernel
theorem dX9_text_58 : decode cX9_text 58 = .ok (.aload_n 0, 1) := by decide +kernel
theorem dX9_text_59 : decode cX9_text 59 = .ok (.getfield 124, 3) := by decide +kernel
theorem dX9_text_62 : decode cX9_text 62 = .ok (.isub, 1) := by decide +kernel
theorem dX9_text_63 : decode cX9_text 63 = .ok (.ireturn, 1) := by decide +kernel
theorem dX9_text_64 : decode cX9_text 64 = .ok (.aload_n 0, 1) := by decide +kernel
theorem dX9_text_65 : decode cX9_text 65 = .ok (.invokevirtual 77, 3) := by decide +kernel
theorem dX9_text_68 : decode cX9_text 68 = .ok (.iload_n 1, 1) := by decide +kernel
theorem dX9_text_69 : decode cX9_text 69 = .ok (.ireturn, 1) := by decide +kernel
theorem dX9_together_0 : decode cX9_together 0 = .ok (.aload_n 0, 1) := by decide +kernel
theorem dX9_together_1 : decode cX9_together 1 = .ok (.iload_n 1, 1) := by decide +kernel
theorem dX9_together_2 : decode cX9_together 2 = .ok (.invokevirtual 325, 3) := by decide +kernel
theorem dX9_together_5 : decode cX9_together 5 = .ok (.ifCond .eq 14, 3) := by decide +kernel
theorem dX9_together_8 : decode cX9_together 8 = .ok (.aload_n 0, 1) := by decide +kernel
theorem dX9_together_9 : decode cX9_together 9 = .ok (.iload_n 1, 1) := by decide +kernel
theorem dX9_together_10 : decode cX9_together 10 = .ok (.invokevirtual 328, 3) := by decide +kernel
theorem dX9_together_13 : decode cX9_together 13 = .ok (.invokestatic 174, 3) := by decide +kernel
theorem dX9_together_16 : decode cX9_together 16 = .ok (.goto 4, 3) := by decide +kernel
theorem dX9_together_19 : decode cX9_together 19 = .ok (.iconst (-1), 1) := by decide +kernel
theorem dX9_together_20 : decode cX9_together 20 = .ok (.ireturn, 1) := by decide +kernel
theorem dX9_torn_0 : decode cX9_torn 0 = .ok (.aload_n 0, 1) := by decide +kernel
theorem dX9_torn_1 : decode cX9_torn 1 = .ok (.getfield 359, 3) := by decide +kernel
theorem dX9_torn_4 : decode cX9_torn 4 = .ok (.ireturn, 1) := by decide +kernel
theorem dX9_upright_0 : decode cX9_upright 0 = .ok (.iload_n 1, 1) := by decide +kernel
theorem dX9_upright_1 : decode cX9_upright 1 = .ok (.i2l, 1) := by decide +kernel
theorem dX9_upright_2 : decode cX9_upright 2 = .ok (.lconst 0, 1) := by decide +kernel
theorem dX9_upright_3 : decode cX9_upright 3 = .ok (.ldc2_w 334, 3) := by decide +kernel
theorem dX9_upright_6 : decode cX9_upright 6 = .ok (.invokestatic 114, 3) := by decide +kernel
theorem dX9_upright_9 : decode cX9_upright 9 = .ok (.ifCond .ne 5, 3) := by decide +kernel
theorem dX9_upright_12 : decode cX9_upright 12 = .ok (.iconst (-1), 1) := by decide +kernel
theorem dX9_upright_13 : decode cX9_upright 13 = .ok (.ireturn, 1) := by decide +kernel
theorem dX9_upright_14 : decode cX9_upright 14 = .ok (.bipush (-4), 2) := by decide +kernel
theorem dX9_upright_16 : decode cX9_upright 16 = .ok (.istore_n 2, 1) := by decide +kernel
theorem dX9_upright_17 : decode cX9_upright 17 = .ok (.iconst 0, 1) := by decide +kernel
theorem dX9_upright_18 : decode cX9_upright 18 = .ok (.istore_n 3, 1) := by decide +kernel
theorem dX9_upright_19 : decode cX9_upright 19 = .ok (.iconst 0, 1) := by decide +kernel
theorem dX9_upright_20 : decode cX9_upright 20 = .ok (.istore 4, 2) := by decide +kernel
theorem dX9_upright_22 : decode cX9_upright 22 = .ok (.iconst 0, 1) := by decide +kernel
theorem dX9_upright_23 : decode cX9_upright 23 = .ok (.istore 5, 2) := by decide +kernel
theorem dX9_upright_25 : decode cX9_upright 25 = .ok (.iload 5, 2) := by decide +kernel
theorem dX9_upright_27 : decode cX9_upright 27 = .ok (.iconst 1, 1) := by decide +kernel
theorem dX9_upright_28 : decode cX9_upright 28 = .ok (.aload_n 0, 1) := by decide +kernel
theorem dX9_upright_29 : decode cX9_upright 29 = .ok (.getfield 93, 3) := by decide +kernel
theorem dX9_upright_32 : decode cX9_upright 32 = .ok (.ishl, 1) := by decide +kernel
theorem dX9_upright_33 : decode cX9_upright 33 = .ok (.if_icmp .ge 125, 3) := by decide +kernel
theorem dX9_upright_36 : decode cX9_upright 36 = .ok (.aload_n 0, 1) := by decide +kernel
theorem dX9_upright_37 : decode cX9_upright 37 = .ok (.iload 5, 2) := by decide +kernel
theorem dX9_upright_39 : decode cX9_upright 39 = .ok (.invokevirtual 328, 3) := by decide +kernel
theorem dX9_upright_42 : decode cX9_upright 42 = .ok (.ifCond .eq 110, 3) := by decide +kernel
theorem dX9_upright_45 : decode cX9_upright 45 = .ok (.aload_n 0, 1) := by decide +kernel
theorem dX9_upright_46 : decode cX9_upright 46 = .ok (.sipush 384, 3) := by decide +kernel
theorem dX9_upright_49 : decode cX9_upright 49 = .ok (.invokevirtual 205, 3) := by decide +kernel
theorem dX9_upright_52 : decode cX9_upright 52 = .ok (.istore 6, 2) := by decide +kernel
theorem dX9_upright_54 : decode cX9_upright 54 = .ok (.aload_n 0, 1) := by decide +kernel
theorem dX9_upright_55 : decode cX9_upright 55 = .ok (.sipush 384, 3) := by decide +kernel
theorem dX9_upright_58 : decode cX9_upright 58 = .ok (.invokevirtual 208, 3) := by decide +kernel
theorem dX9_upright_61 : decode cX9_upright 61 = .ok (.istore 7, 2) := by decide +kernel
theorem dX9_upright_63 : decode cX9_upright 63 = .ok (.iload_n 2, 1) := by decide +kernel
theorem dX9_upright_64 : decode cX9_upright 64 = .ok (.bipush (-4), 2) := by decide +kernel
theorem dX9_upright_66 : decode cX9_upright 66 = .ok (.if_icmp .eq 41, 3) := by decide +kernel
theorem dX9_upright_69 : decode cX9_upright 69 = .ok (.iload 6, 2) := by decide +kernel
theorem dX9_upright_71 : decode cX9_upright 71 = .ok (.iload_n 3, 1) := by decide +kernel
theorem dX9_upright_72 : decode cX9_upright 72 = .ok (.if_icmp .lt 35, 3) := by decide +kernel
theorem dX9_upright_75 : decode cX9_upright 75 = .ok (.iload 6, 2) := by decide +kernel
theorem dX9_upright_77 : decode cX9_upright 77 = .ok (.iload_n 3, 1) := by decide +kernel
theorem dX9_upright_78 : decode cX9_upright 78 = .ok (.if_icmp .ne 33, 3) := by decide +kernel
theorem dX9_upright_81 : decode cX9_upright 81 = .ok (.iload 7, 2) := by decide +kernel
theorem dX9_upright_83 : decode cX9_upright 83 = .ok (.iload 4, 2) := by decide +kernel
theorem dX9_upright_85 : decode cX9_upright 85 = .ok (.if_icmp .lt 22, 3) := by decide +kernel
theorem dX9_upright_88 : decode cX9_upright 88 = .ok (.iload 7, 2) := by decide +kernel
theorem dX9_upright_90 : decode cX9_upright 90 = .ok (.iload 4, 2) := by decide +kernel
theorem dX9_upright_92 : decode cX9_upright 92 = .ok (.if_icmp .ne 19, 3) := by decide +kernel
theorem dX9_upright_95 : decode cX9_upright 95 = .ok (.iload 5, 2) := by decide +kernel
theorem dX9_upright_97 : decode cX9_upright 97 = .ok (.invokestatic 331, 3) := by decide +kernel
theorem dX9_upright_100 : decode cX9_upright 100 = .ok (.iload_n 2, 1) := by decide +kernel
theorem dX9_upright_101 : decode cX9_upright 101 = .ok (.invokestatic 331, 3) := by decide +kernel
theorem dX9_upright_104 : decode cX9_upright 104 = .ok (.if_icmp .ge 7, 3) := by decide +kernel
theorem dX9_upright_107 : decode cX9_upright 107 = .ok (.iconst 1, 1) := by decide +kernel
theorem dX9_upright_108 : decode cX9_upright 108 = .ok (.goto 4, 3) := by decide +kernel
theorem dX9_upright_111 : decode cX9_upright 111 = .ok (.iconst 0, 1) := by decide +kernel
theorem dX9_upright_112 : decode cX9_upright 112 = .ok (.istore 8, 2) := by decide +kernel
theorem dX9_upright_114 : decode cX9_upright 114 = .ok (.iload 8, 2) := by decide +kernel
theorem dX9_upright_116 : decode cX9_upright 116 = .ok (.ifCond .eq 8, 3) := by decide +kernel
theorem dX9_upright_119 : decode cX9_upright 119 = .ok (.iload 5, 2) := by decide +kernel
theorem dX9_upright_121 : decode cX9_upright 121 = .ok (.goto 4, 3) := by decide +kernel
theorem dX9_upright_124 : decode cX9_upright 124 = .ok (.iload_n 2, 1) := by decide +kernel
theorem dX9_upright_125 : decode cX9_upright 125 = .ok (.istore_n 2, 1) := by decide +kernel
theorem dX9_upright_126 : decode cX9_upright 126 = .ok (.iload 8, 2) := by decide +kernel
theorem dX9_upright_128 : decode cX9_upright 128 = .ok (.ifCond .eq 8, 3) := by decide +kernel
theorem dX9_upright_131 : decode cX9_upright 131 = .ok (.iload 6, 2) := by decide +kernel
theorem dX9_upright_133 : decode cX9_upright 133 = .ok (.goto 4, 3) := by decide +kernel
theorem dX9_upright_136 : decode cX9_upright 136 = .ok (.iload_n 3, 1) := by decide +kernel
theorem dX9_upright_137 : decode cX9_upright 137 = .ok (.istore_n 3, 1) := by decide +kernel
theorem dX9_upright_138 : decode cX9_upright 138 = .ok (.iload 8, 2) := by decide +kernel
theorem dX9_upright_140 : decode cX9_upright 140 = .ok (.ifCond .eq 8, 3) := by decide +kernel
theorem dX9_upright_143 : decode cX9_upright 143 = .ok (.iload 7, 2) := by decide +kernel
theorem dX9_upright_145 : decode cX9_upright 145 = .ok (.goto 5, 3) := by decide +kernel
theorem dX9_upright_148 : decode cX9_upright 148 = .ok (.iload 4, 2) := by decide +kernel
theorem dX9_upright_150 : decode cX9_upright 150 = .ok (.istore 4, 2) := by decide +kernel
theorem dX9_upright_152 : decode cX9_upright 152 = .ok (.iinc 5 1, 3) := by decide +kernel
theorem dX9_upright_155 : decode cX9_upright 155 = .ok (.goto (-130), 3) := by decide +kernel
theorem dX9_upright_158 : decode cX9_upright 158 = .ok (.iload_n 2, 1) := by decide +kernel
theorem dX9_upright_159 : decode cX9_upright 159 = .ok (.bipush (-4), 2) := by decide +kernel
theorem dX9_upright_161 : decode cX9_upright 161 = .ok (.if_icmp .ne 8, 3) := by decide +kernel
theorem dX9_upright_164 : decode cX9_upright 164 = .ok (.bipush (-4), 2) := by decide +kernel
theorem dX9_upright_166 : decode cX9_upright 166 = .ok (.goto 22, 3) := by decide +kernel
theorem dX9_upright_169 : decode cX9_upright 169 = .ok (.iload_n 1, 1) := by decide +kernel
theorem dX9_upright_170 : decode cX9_upright 170 = .ok (.ifCond .ne 7, 3) := by decide +kernel
theorem dX9_upright_173 : decode cX9_upright 173 = .ok (.iload_n 2, 1) := by decide +kernel
theorem dX9_upright_174 : decode cX9_upright 174 = .ok (.goto 14, 3) := by decide +kernel
theorem dX9_upright_177 : decode cX9_upright 177 = .ok (.iload_n 1, 1) := by decide +kernel
theorem dX9_upright_178 : decode cX9_upright 178 = .ok (.iconst 1, 1) := by decide +kernel
theorem dX9_upright_179 : decode cX9_upright 179 = .ok (.if_icmp .ne 7, 3) := by decide +kernel
theorem dX9_upright_182 : decode cX9_upright 182 = .ok (.iload_n 3, 1) := by decide +kernel
theorem dX9_upright_183 : decode cX9_upright 183 = .ok (.goto 5, 3) := by decide +kernel
theorem dX9_upright_186 : decode cX9_upright 186 = .ok (.iload 4, 2) := by decide +kernel
theorem dX9_upright_188 : decode cX9_upright 188 = .ok (.ireturn, 1) := by decide +kernel
theorem dX9_water_0 : decode cX9_water 0 = .ok (.iload_n 1, 1) := by decide +kernel
theorem dX9_water_1 : decode cX9_water 1 = .ok (.i2l, 1) := by decide +kernel
theorem dX9_water_2 : decode cX9_water 2 = .ok (.lconst 1, 1) := by decide +kernel
theorem dX9_water_3 : decode cX9_water 3 = .ok (.ldc2_w 256, 3) := by decide +kernel
theorem dX9_water_6 : decode cX9_water 6 = .ok (.invokestatic 114, 3) := by decide +kernel
theorem dX9_water_9 : decode cX9_water 9 = .ok (.ifCond .eq 11, 3) := by decide +kernel
theorem dX9_water_12 : decode cX9_water 12 = .ok (.aload_n 0, 1) := by decide +kernel
theorem dX9_water_13 : decode cX9_water 13 = .ok (.iload_n 2, 1) := by decide +kernel
theorem dX9_water_14 : decode cX9_water 14 = .ok (.invokevirtual 220, 3) := by decide +kernel
theorem dX9_water_17 : decode cX9_water 17 = .ok (.ifCond .ne 5, 3) := by decide +kernel
theorem dX9_water_20 : decode cX9_water 20 = .ok (.iconst (-1), 1) := by decide +kernel
theorem dX9_water_21 : decode cX9_water 21 = .ok (.ireturn, 1) := by decide +kernel
theorem dX9_water_22 : decode cX9_water 22 = .ok (.aload_n 0, 1) := by decide +kernel
theorem dX9_water_23 : decode cX9_water 23 = .ok (.sipush 384, 3) := by decide +kernel
theorem dX9_water_26 : decode cX9_water 26 = .ok (.iconst 0, 1) := by decide +kernel
theorem dX9_water_27 : decode cX9_water 27 = .ok (.invokevirtual 261, 3) := by decide +kernel
theorem dX9_water_30 : decode cX9_water 30 = .ok (.aload_n 0, 1) := by decide +kernel
theorem dX9_water_31 : decode cX9_water 31 = .ok (.iload_n 1, 1) := by decide +kernel
theorem dX9_water_32 : decode cX9_water 32 = .ok (.invokevirtual 277, 3) := by decide +kernel
theorem dX9_water_35 : decode cX9_water 35 = .ok (.aload_n 0, 1) := by decide +kernel
theorem dX9_water_36 : decode cX9_water 36 = .ok (.getfield 7, 3) := by decide +kernel
theorem dX9_water_39 : decode cX9_water 39 = .ok (.sipush 384, 3) := by decide +kernel
theorem dX9_water_42 : decode cX9_water 42 = .ok (.iload_n 2, 1) := by decide +kernel
theorem dX9_water_43 : decode cX9_water 43 = .ok (.iadd, 1) := by decide +kernel
theorem dX9_water_44 : decode cX9_water 44 = .ok (.iaload, 1) := by decide +kernel
theorem dX9_water_45 : decode cX9_water 45 = .ok (.ireturn, 1) := by decide +kernel
theorem dX9_wipe_0 : decode cX9_wipe 0 = .ok (.aload_n 0, 1) := by decide +kernel
theorem dX9_wipe_1 : decode cX9_wipe 1 = .ok (.getfield 350, 3) := by decide +kernel
theorem dX9_wipe_4 : decode cX9_wipe 4 = .ok (.istore_n 1, 1) := by decide +kernel
theorem dX9_wipe_5 : decode cX9_wipe 5 = .ok (.aload_n 0, 1) := by decide +kernel
theorem dX9_wipe_6 : decode cX9_wipe 6 = .ok (.iconst 0, 1) := by decide +kernel
theorem dX9_wipe_7 : decode cX9_wipe 7 = .ok (.putfield 350, 3) := by decide +kernel
theorem dX9_wipe_10 : decode cX9_wipe 10 = .ok (.iload_n 1, 1) := by decide +kernel
theorem dX9_wipe_11 : decode cX9_wipe 11 = .ok (.ireturn, 1) := by decide +kernel
def b_X9_text_20 (F : Nat) (t7 : Int32 × Mm) : Option ((Int32 × Mm) ⊕ (Int32 × Mm)) :=
  if (t7.2 113 27) = 0 then (if (t7.2 113 25) = 0 then (some (Sum.inr ((t7.1, t7.2)))) else ((f_X9_readLine F t7.2).bind fun m10 => some (Sum.inl (t7.1 + 1, m10)))) else (some (Sum.inr ((t7.1, t7.2))))
def f_X9_text (F : Nat) (m : Mm) : Option (Int32 × Mm) :=
  letv (up2 m 113 27 0) fun m1 => letv (up2 m1 113 23 0) fun m2 => (f_X9_firstDraft F m2).bind fun m4 => (f_X9_next F m4).bind fun m6 => (iter F (b_X9_text_20 F) ((0, m6) : Int32 × Mm)).bind (fun e8 : Int32 × Mm => letv (up2 e8.2 113 22 0) fun m11 => if (m11 113 27) ≤ 0 then ((f_X9_keepDraft F m11).bind fun m13 => some (e8.1, m13)) else (some (((-10) : Int32) - (m11 113 28), m11)))
set_option maxHeartbeats 4000000 in
set_option maxRecDepth 100000 in
theorem ct_X9_text (F : Nat) {n : Nat} (hn : 135 ≤ n) (P D : Nat) (T : Option Nat) (m : Mm)  : Ct yX9_text cX9_text 2 (some .int) 6 138 [.ref 113] n n m (RF P D T) (rI (RF P D T) (f_X9_text F m)) := by
  refine Ct.ofI (own := RX9) (nm := "text") [(0, .ref 113)] (by decide) (Nat.le_of_ble_eq_true rfl) rfl rfl rfl ?_
  unfold f_X9_text
  refine J_iconst 0 dX9_text_0 (by decide) ?_
  refine J_istore_n 1 [(1, .int 0), (0, .ref 113)] dX9_text_1 rfl (by decide) rfl ?_
  refine J_aload_n 0 1 113 dX9_text_2 rfl rfl ?_
  refine J_iconst 0 dX9_text_3 (by decide) ?_
  refine J_putI 113 9 27 dX9_text_4 fl_9_118 rfl rfl (Nat.lt_of_lt_of_le (Nat.le_of_ble_eq_true rfl) hn) rfl rfl rfl (fun m1 => ?_)
  refine J_aload_n 0 1 113 dX9_text_7 rfl rfl ?_
  refine J_iconst 0 dX9_text_8 (by decide) ?_
  refine J_putI 113 9 23 dX9_text_9 fl_9_127 rfl rfl (Nat.lt_of_lt_of_le (Nat.le_of_ble_eq_true rfl) hn) rfl rfl rfl (fun m2 => ?_)
  refine J_aload_n 0 1 113 dX9_text_12 rfl rfl ?_
  refine J_callVV 113 9 0 [] dX9_text_13 mv_X9_firstDraft mv_X9_firstDraftv lk_9_74 (ct_X9_firstDraft F hn P D T m2) rfl rfl (by decide) rfl (Nat.lt_of_lt_of_le (Nat.le_of_ble_eq_true rfl) hn) ⟨by decide, by decide⟩ (Nat.le_of_ble_eq_true rfl) (fun m4 => ?_)
  refine J_aload_n 0 1 113 dX9_text_16 rfl rfl ?_
  refine J_callVV 113 9 0 [] dX9_text_17 mv_X9_next mv_X9_nextv lk_9_160 (ct_X9_next F hn P D T m4) rfl rfl (by decide) rfl (Nat.lt_of_lt_of_le (Nat.le_of_ble_eq_true rfl) hn) ⟨by decide, by decide⟩ (Nat.le_of_ble_eq_true rfl) (fun m6 => ?_)
  refine J_lv [1, 0] rfl ?_
  refine J_loop (pc := 20) (fun t7 : Int32 × Mm => [(0, .ref 113), (1, .int t7.1)]) (fun t7 => t7.2) (fun _ => 44) (fun e8 => [(0, .ref 113), (1, .int e8.1)]) (fun _ => []) (fun e8 => e8.2) ?_ (fun t7 k1 hBt7 hXt7 => ?_) F ((0, m6))
  · refine fun e8 => ?_
    refine J_aload_n 0 0 113 dX9_text_44 rfl rfl ?_
    refine J_iconst 0 dX9_text_45 (by decide) ?_
    refine J_putI 113 9 22 dX9_text_46 fl_9_109 rfl rfl (Nat.lt_of_lt_of_le (Nat.le_of_ble_eq_true rfl) hn) rfl rfl rfl (fun m11 => ?_)
    refine J_aload_n 0 0 113 dX9_text_49 rfl rfl ?_
    refine J_getI 113 9 27 dX9_text_50 fl_9_118 rfl rfl (Nat.lt_of_lt_of_le (Nat.le_of_ble_eq_true rfl) hn) ?_
    refine J_if_le 64 dX9_text_53 (by decide) ?_ ?_
    · refine J_aload_n 0 0 113 dX9_text_64 rfl rfl ?_
      refine J_callVV 113 9 0 [] dX9_text_65 mv_X9_keepDraft mv_X9_keepDraftv lk_9_77 (ct_X9_keepDraft F hn P D T m11) rfl rfl (by decide) rfl (Nat.lt_of_lt_of_le (Nat.le_of_ble_eq_true rfl) hn) ⟨by decide, by decide⟩ (Nat.le_of_ble_eq_true rfl) (fun m13 => ?_)
      refine J_iload_n 1 1 e8.1 dX9_text_68 rfl rfl ?_
      exact J_iretI dX9_text_69 rfl rfl
    · refine J_bipush (-10) dX9_text_56 (by decide) ?_
      refine J_aload_n 0 0 113 dX9_text_58 rfl rfl ?_
      refine J_getI 113 9 28 dX9_text_59 fl_9_124 rfl rfl (Nat.lt_of_lt_of_le (Nat.le_of_ble_eq_true rfl) hn) ?_
      refine J_isub dX9_text_62 ?_
      exact J_iretI dX9_text_63 rfl rfl
  · unfold b_X9_text_20
    refine J_aload_n 0 0 113 dX9_text_20 rfl rfl ?_
    refine J_getI 113 9 27 dX9_text_21 fl_9_118 rfl rfl (Nat.lt_of_lt_of_le (Nat.le_of_ble_eq_true rfl) hn) ?_
    refine J_if_ne 44 dX9_text_24 (by decide) ?_ ?_
    · exact J_lv [0, 1] rfl (hXt7 ((t7.1, t7.2)))
    · refine J_aload_n 0 0 113 dX9_text_27 rfl rfl ?_
      refine J_getI 113 9 25 dX9_text_28 fl_9_138 rfl rfl (Nat.lt_of_lt_of_le (Nat.le_of_ble_eq_true rfl) hn) ?_
      refine J_if_eq 44 dX9_text_31 (by decide) ?_ ?_
      · exact J_lv [0, 1] rfl (hXt7 ((t7.1, t7.2)))
      · refine J_aload_n 0 0 113 dX9_text_34 rfl rfl ?_
        refine J_callVV 113 9 0 [] dX9_text_35 mv_X9_readLine mv_X9_readLinev lk_9_196 (ct_X9_readLine F hn P D T t7.2) rfl rfl (by decide) rfl (Nat.lt_of_lt_of_le (Nat.le_of_ble_eq_true rfl) hn) ⟨by decide, by decide⟩ (Nat.le_of_ble_eq_true rfl) (fun m10 => ?_)
        refine J_iinc 1 1 [(1, .int (t7.1 + 1)), (0, .ref 113)] t7.1 (t7.1 + 1) dX9_text_38 rfl rfl (by decide) rfl ?_
        refine J_goto 20 dX9_text_41 (by decide) ?_
        exact J_lv [1, 0] rfl (hBt7 (t7.1 + 1, m10))
def f_X9_together (F : Nat) (m : Mm) (a1 : Int32) : Option (Int32 × Mm) :=
  (f_X9_areHolds m a1).bind fun x1 => if x1 = 0 then (some ((-1), m)) else (bind2 (f_X9_floatsWith F m a1) fun x3 m4 => (f_X9_flag x3).bind fun x5 => some (x5, m4))
set_option maxHeartbeats 4000000 in
set_option maxRecDepth 100000 in
theorem ct_X9_together (F : Nat) {n : Nat} (hn : 135 ≤ n) (P D : Nat) (T : Option Nat) (m : Mm) (a1 : Int32) : Ct yX9_together cX9_together 2 (some .int) 4 86 [.ref 113, .int a1] n n m (RF P D T) (rI (RF P D T) (f_X9_together F m a1)) := by
  refine Ct.ofI (own := RX9) (nm := "together") [(0, .ref 113), (1, .int a1)] (by decide) (Nat.le_of_ble_eq_true rfl) rfl rfl rfl ?_
  unfold f_X9_together
  refine J_aload_n 0 0 113 dX9_together_0 rfl rfl ?_
  refine J_iload_n 1 1 a1 dX9_together_1 rfl rfl ?_
  refine J_callVP 113 9 1 [.int a1] dX9_together_2 mv_X9_areHolds mv_X9_areHoldsv lk_9_325 (ct_X9_areHolds F hn P D T m a1) rfl rfl (by decide) rfl (Nat.lt_of_lt_of_le (Nat.le_of_ble_eq_true rfl) hn) ⟨by decide, by decide⟩ (Nat.le_of_ble_eq_true rfl) (fun x1 => ?_)
  refine J_if_eq 19 dX9_together_5 (by decide) ?_ ?_
  · refine J_iconst (-1) dX9_together_19 (by decide) ?_
    exact J_iretI dX9_together_20 rfl rfl
  · refine J_aload_n 0 0 113 dX9_together_8 rfl rfl ?_
    refine J_iload_n 1 1 a1 dX9_together_9 rfl rfl ?_
    refine J_callVI 113 9 1 [.int a1] dX9_together_10 mv_X9_floatsWith mv_X9_floatsWithv lk_9_328 (ct_X9_floatsWith F hn P D T m a1) rfl rfl (by decide) rfl (Nat.lt_of_lt_of_le (Nat.le_of_ble_eq_true rfl) hn) ⟨by decide, by decide⟩ (Nat.le_of_ble_eq_true rfl) (fun x3 m4 => ?_)
    refine J_callSP 1 [.int x3] dX9_together_13 mv_X9_flag mv_X9_flags lk_9_174 (ct_X9_flag F hn P D T m4 x3) rfl ⟨by decide, by decide⟩ (Nat.le_of_ble_eq_true rfl) (fun x5 => ?_)
    refine J_goto 20 dX9_together_16 (by decide) ?_
    exact J_iretI dX9_together_20 rfl rfl
def f_X9_torn (m : Mm) : Option (Int32) :=
  some (m 113 41)
set_option maxHeartbeats 4000000 in
set_option maxRecDepth 100000 in
theorem ct_X9_torn (F : Nat) {n : Nat} (hn : 135 ≤ n) (P D : Nat) (T : Option Nat) (m : Mm)  : Ct yX9_torn cX9_torn 1 (some .int) 0 0 [.ref 113] n n m (RF P D T) (rP m (RF P D T) (f_X9_torn m)) := by
  refine Ct.ofP (own := RX9) (nm := "torn") [(0, .ref 113)] (by decide) (Nat.le_of_ble_eq_true rfl) rfl rfl rfl ?_
  unfold f_X9_torn
  refine J_aload_n 0 0 113 dX9_torn_0 rfl rfl ?_
  refine J_getI 113 9 41 dX9_torn_1 fl_9_359 rfl rfl (Nat.lt_of_lt_of_le (Nat.le_of_ble_eq_true rfl) hn) ?_
  exact J_iretP dX9_torn_4 rfl rfl
def b_X9_upright_25 (F : Nat) (t3 : Int32 × Int32 × Int32 × Int32 × Mm) : Option ((Int32 × Int32 × Int32 × Int32 × Mm) ⊕ (Int32 × Int32 × Int32 × Mm)) :=
  if ((1 : Int32) <<< ((t3.2.2.2.2 113 2) &&& 31)) ≤ t3.2.2.2.1 then (some (Sum.inr ((t3.1, t3.2.1, t3.2.2.1, t3.2.2.2.2)))) else (bind2 (f_X9_floatsWith F t3.2.2.2.2 t3.2.2.2.1) fun x5 m6 => (if x5 = 0 then (some (t3.1, t3.2.1, t3.2.2.1)) else ((f_X9_listOf F m6 384).bind fun x8 => (f_X9_trimOf F m6 384).bind fun x10 => (if t3.1 = ((-4) : Int32) then (some 1) else (if x8 < t3.2.1 then (some 1) else (if x8 = t3.2.1 then (if x10 < t3.2.2.1 then (some 1) else (if x10 = t3.2.2.1 then ((f_X9_countOf F t3.2.2.2.1).bind fun x13 => (f_X9_countOf F t3.1).bind fun x15 => if x15 ≤ x13 then (some 0) else (some 1)) else (some 0))) else (some 0))) : Option (Int32)).bind fun y12 => (if y12 = 0 then (some t3.1) else (some t3.2.2.2.1) : Option (Int32)).bind fun y17 => (if y12 = 0 then (some t3.2.1) else (some x8) : Option (Int32)).bind fun y18 => (if y12 = 0 then (some t3.2.2.1) else (some x10) : Option (Int32)).bind fun y19 => some (y17, y18, y19)) : Option (Int32 × Int32 × Int32)).bind fun y7 => some (Sum.inl (y7.1, y7.2.1, y7.2.2, t3.2.2.2.1 + 1, m6)))
def f_X9_upright (F : Nat) (m : Mm) (a1 : Int32) : Option (Int32 × Mm) :=
  (f_X9_in a1.toInt64 0 2).bind fun x1 => if x1 = 0 then (some ((-1), m)) else ((iter F (b_X9_upright_25 F) (((-4), 0, 0, 0, m) : Int32 × Int32 × Int32 × Int32 × Mm)).bind (fun e4 : Int32 × Int32 × Int32 × Mm => if e4.1 = ((-4) : Int32) then (some ((-4), e4.2.2.2)) else (if a1 = 0 then (some (e4.1, e4.2.2.2)) else (if a1 = (1 : Int32) then (some (e4.2.1, e4.2.2.2)) else (some (e4.2.2.1, e4.2.2.2))))))
set_option maxHeartbeats 4000000 in
set_option maxRecDepth 100000 in
theorem ct_X9_upright (F : Nat) {n : Nat} (hn : 135 ≤ n) (P D : Nat) (T : Option Nat) (m : Mm) (a1 : Int32) : Ct yX9_upright cX9_upright 9 (some .int) 4 86 [.ref 113, .int a1] n n m (RF P D T) (rI (RF P D T) (f_X9_upright F m a1)) := by
  refine Ct.ofI (own := RX9) (nm := "upright") [(0, .ref 113), (1, .int a1)] (by decide) (Nat.le_of_ble_eq_true rfl) rfl rfl rfl ?_
  unfold f_X9_upright
  refine J_iload_n 1 1 a1 dX9_upright_0 rfl rfl ?_
  refine J_i2l dX9_upright_1 ?_
  refine J_lconst 0 dX9_upright_2 (by decide) ?_
  refine J_ldc2 2 dX9_upright_3 kl_9_334 ?_
  refine J_callSP 3 [.long a1.toInt64, .long 0, .long 2] dX9_upright_6 mv_X9_in mv_X9_ins lk_9_114 (ct_X9_in F hn P D T m a1.toInt64 0 2) rfl ⟨by decide, by decide⟩ (Nat.le_of_ble_eq_true rfl) (fun x1 => ?_)
  refine J_if_ne 14 dX9_upright_9 (by decide) ?_ ?_
  · refine J_bipush (-4) dX9_upright_14 (by decide) ?_
    refine J_istore_n 2 [(2, .int (-4)), (0, .ref 113), (1, .int a1)] dX9_upright_16 rfl (by decide) rfl ?_
    refine J_iconst 0 dX9_upright_17 (by decide) ?_
    refine J_istore_n 3 [(3, .int 0), (2, .int (-4)), (0, .ref 113), (1, .int a1)] dX9_upright_18 rfl (by decide) rfl ?_
    refine J_iconst 0 dX9_upright_19 (by decide) ?_
    refine J_istore 4 [(4, .int 0), (3, .int 0), (2, .int (-4)), (0, .ref 113), (1, .int a1)] dX9_upright_20 (by decide) rfl ?_
    refine J_iconst 0 dX9_upright_22 (by decide) ?_
    refine J_istore 5 [(5, .int 0), (4, .int 0), (3, .int 0), (2, .int (-4)), (0, .ref 113), (1, .int a1)] dX9_upright_23 (by decide) rfl ?_
    refine J_lv [4, 5, 3, 2, 1, 0] rfl ?_
    refine J_loop (pc := 25) (fun t3 : Int32 × Int32 × Int32 × Int32 × Mm => [(0, .ref 113), (1, .int a1), (2, .int t3.1), (3, .int t3.2.1), (4, .int t3.2.2.1), (5, .int t3.2.2.2.1)]) (fun t3 => t3.2.2.2.2) (fun _ => 158) (fun e4 => [(1, .int a1), (2, .int e4.1), (3, .int e4.2.1), (4, .int e4.2.2.1)]) (fun _ => []) (fun e4 => e4.2.2.2) ?_ (fun t3 k1 hBt3 hXt3 => ?_) F (((-4), 0, 0, 0, m))
    · refine fun e4 => ?_
      refine J_iload_n 2 1 e4.1 dX9_upright_158 rfl rfl ?_
      refine J_bipush (-4) dX9_upright_159 (by decide) ?_
      refine J_icmp_ne 169 dX9_upright_161 (by decide) ?_ ?_
      · refine J_iload_n 1 0 a1 dX9_upright_169 rfl rfl ?_
        refine J_if_ne 177 dX9_upright_170 (by decide) ?_ ?_
        · refine J_iload_n 1 0 a1 dX9_upright_177 rfl rfl ?_
          refine J_iconst 1 dX9_upright_178 (by decide) ?_
          refine J_icmp_ne 186 dX9_upright_179 (by decide) ?_ ?_
          · refine J_iload 4 3 e4.2.2.1 dX9_upright_186 rfl ?_
            exact J_iretI dX9_upright_188 rfl rfl
          · refine J_iload_n 3 2 e4.2.1 dX9_upright_182 rfl rfl ?_
            refine J_goto 188 dX9_upright_183 (by decide) ?_
            exact J_iretI dX9_upright_188 rfl rfl
        · refine J_iload_n 2 1 e4.1 dX9_upright_173 rfl rfl ?_
          refine J_goto 188 dX9_upright_174 (by decide) ?_
          exact J_iretI dX9_upright_188 rfl rfl
      · refine J_bipush (-4) dX9_upright_164 (by decide) ?_
        refine J_goto 188 dX9_upright_166 (by decide) ?_
        exact J_iretI dX9_upright_188 rfl rfl
    · unfold b_X9_upright_25
      refine J_iload 5 5 t3.2.2.2.1 dX9_upright_25 rfl ?_
      refine J_iconst 1 dX9_upright_27 (by decide) ?_
      refine J_aload_n 0 0 113 dX9_upright_28 rfl rfl ?_
      refine J_getI 113 9 2 dX9_upright_29 fl_9_93 rfl rfl (Nat.lt_of_lt_of_le (Nat.le_of_ble_eq_true rfl) hn) ?_
      refine J_ishl dX9_upright_32 ?_
      refine J_icmp_ge 158 dX9_upright_33 (by decide) ?_ ?_
      · exact J_lv [1, 2, 3, 4] rfl (hXt3 ((t3.1, t3.2.1, t3.2.2.1, t3.2.2.2.2)))
      · refine J_aload_n 0 0 113 dX9_upright_36 rfl rfl ?_
        refine J_iload 5 5 t3.2.2.2.1 dX9_upright_37 rfl ?_
        refine J_callVI 113 9 1 [.int t3.2.2.2.1] dX9_upright_39 mv_X9_floatsWith mv_X9_floatsWithv lk_9_328 (ct_X9_floatsWith F hn P D T t3.2.2.2.2 t3.2.2.2.1) rfl rfl (by decide) rfl (Nat.lt_of_lt_of_le (Nat.le_of_ble_eq_true rfl) hn) ⟨by decide, by decide⟩ (Nat.le_of_ble_eq_true rfl) (fun x5 m6 => ?_)
        refine J_seqJ 152 (fun y7 : Int32 × Int32 × Int32 => [(0, .ref 113), (1, .int a1), (2, .int y7.1), (3, .int y7.2.1), (4, .int y7.2.2), (5, .int t3.2.2.2.1)]) (fun y7 => []) (fun y7 => m6) (fun y7 => ?_) (fun k1 hEy7 => ?_)
        · refine J_iinc 5 5 [(5, .int (t3.2.2.2.1 + 1)), (0, .ref 113), (1, .int a1), (2, .int y7.1), (3, .int y7.2.1), (4, .int y7.2.2)] t3.2.2.2.1 (t3.2.2.2.1 + 1) dX9_upright_152 rfl rfl (by decide) rfl ?_
          refine J_goto 25 dX9_upright_155 (by decide) ?_
          exact J_lv [1, 2, 3, 4, 5, 0] rfl (hBt3 (y7.1, y7.2.1, y7.2.2, t3.2.2.2.1 + 1, m6))
        · refine J_if_eq 152 dX9_upright_42 (by decide) ?_ ?_
          · exact J_lv [0, 1, 2, 3, 4, 5] rfl (hEy7 (t3.1, t3.2.1, t3.2.2.1))
          · refine J_aload_n 0 0 113 dX9_upright_45 rfl rfl ?_
            refine J_sipush 384 dX9_upright_46 (by decide) ?_
            refine J_callVP 113 9 1 [.int 384] dX9_upright_49 mv_X9_listOf mv_X9_listOfv lk_9_205 (ct_X9_listOf F hn P D T m6 384) rfl rfl (by decide) rfl (Nat.lt_of_lt_of_le (Nat.le_of_ble_eq_true rfl) hn) ⟨by decide, by decide⟩ (Nat.le_of_ble_eq_true rfl) (fun x8 => ?_)
            refine J_istore 6 [(6, .int x8), (0, .ref 113), (1, .int a1), (2, .int t3.1), (3, .int t3.2.1), (4, .int t3.2.2.1), (5, .int t3.2.2.2.1)] dX9_upright_52 (by decide) rfl ?_
            refine J_aload_n 0 1 113 dX9_upright_54 rfl rfl ?_
            refine J_sipush 384 dX9_upright_55 (by decide) ?_
            refine J_callVP 113 9 1 [.int 384] dX9_upright_58 mv_X9_trimOf mv_X9_trimOfv lk_9_208 (ct_X9_trimOf F hn P D T m6 384) rfl rfl (by decide) rfl (Nat.lt_of_lt_of_le (Nat.le_of_ble_eq_true rfl) hn) ⟨by decide, by decide⟩ (Nat.le_of_ble_eq_true rfl) (fun x10 => ?_)
            refine J_istore 7 [(7, .int x10), (6, .int x8), (0, .ref 113), (1, .int a1), (2, .int t3.1), (3, .int t3.2.1), (4, .int t3.2.2.1), (5, .int t3.2.2.2.1)] dX9_upright_61 (by decide) rfl ?_
            refine J_iload_n 2 4 t3.1 dX9_upright_63 rfl rfl ?_
            refine J_bipush (-4) dX9_upright_64 (by decide) ?_
            refine J_seqJ 112 (fun y12 : Int32 => [(0, .ref 113), (1, .int a1), (2, .int t3.1), (3, .int t3.2.1), (4, .int t3.2.2.1), (5, .int t3.2.2.2.1), (6, .int x8), (7, .int x10)]) (fun y12 => [.int y12]) (fun y12 => m6) (fun y12 => ?_) (fun k1 hEy12 => ?_)
            · refine J_istore 8 [(8, .int y12), (0, .ref 113), (1, .int a1), (2, .int t3.1), (3, .int t3.2.1), (4, .int t3.2.2.1), (5, .int t3.2.2.2.1), (6, .int x8), (7, .int x10)] dX9_upright_112 (by decide) rfl ?_
              refine J_iload 8 0 y12 dX9_upright_114 rfl ?_
              refine J_seqJ 125 (fun y17 : Int32 => [(0, .ref 113), (1, .int a1), (3, .int t3.2.1), (4, .int t3.2.2.1), (5, .int t3.2.2.2.1), (6, .int x8), (7, .int x10), (8, .int y12)]) (fun y17 => [.int y17]) (fun y17 => m6) (fun y17 => ?_) (fun k1 hEy17 => ?_)
              · refine J_istore_n 2 [(2, .int y17), (0, .ref 113), (1, .int a1), (3, .int t3.2.1), (4, .int t3.2.2.1), (5, .int t3.2.2.2.1), (6, .int x8), (7, .int x10), (8, .int y12)] dX9_upright_125 rfl (by decide) rfl ?_
                refine J_iload 8 8 y12 dX9_upright_126 rfl ?_
                refine J_seqJ 137 (fun y18 : Int32 => [(0, .ref 113), (1, .int a1), (2, .int y17), (4, .int t3.2.2.1), (5, .int t3.2.2.2.1), (7, .int x10), (8, .int y12)]) (fun y18 => [.int y18]) (fun y18 => m6) (fun y18 => ?_) (fun k1 hEy18 => ?_)
                · refine J_istore_n 3 [(3, .int y18), (0, .ref 113), (1, .int a1), (2, .int y17), (4, .int t3.2.2.1), (5, .int t3.2.2.2.1), (7, .int x10), (8, .int y12)] dX9_upright_137 rfl (by decide) rfl ?_
                  refine J_iload 8 7 y12 dX9_upright_138 rfl ?_
                  refine J_seqJ 150 (fun y19 : Int32 => [(0, .ref 113), (1, .int a1), (2, .int y17), (3, .int y18), (5, .int t3.2.2.2.1)]) (fun y19 => [.int y19]) (fun y19 => m6) (fun y19 => ?_) (fun k1 hEy19 => ?_)
                  · refine J_istore 4 [(4, .int y19), (0, .ref 113), (1, .int a1), (2, .int y17), (3, .int y18), (5, .int t3.2.2.2.1)] dX9_upright_150 (by decide) rfl ?_
                    exact J_lv [1, 2, 3, 4, 0, 5] rfl (hEy7 (y17, y18, y19))
                  · refine J_if_eq 148 dX9_upright_140 (by decide) ?_ ?_
                    · refine J_iload 4 4 t3.2.2.1 dX9_upright_148 rfl ?_
                      exact J_lv [1, 2, 3, 0, 5] rfl (hEy19 t3.2.2.1)
                    · refine J_iload 7 6 x10 dX9_upright_143 rfl ?_
                      refine J_goto 150 dX9_upright_145 (by decide) ?_
                      exact J_lv [1, 2, 3, 0, 5] rfl (hEy19 x10)
                · refine J_if_eq 136 dX9_upright_128 (by decide) ?_ ?_
                  · refine J_iload_n 3 3 t3.2.1 dX9_upright_136 rfl rfl ?_
                    exact J_lv [1, 2, 0, 4, 5, 7, 8] rfl (hEy18 t3.2.1)
                  · refine J_iload 6 6 x8 dX9_upright_131 rfl ?_
                    refine J_goto 137 dX9_upright_133 (by decide) ?_
                    exact J_lv [1, 2, 0, 4, 5, 7, 8] rfl (hEy18 x8)
              · refine J_if_eq 124 dX9_upright_116 (by decide) ?_ ?_
                · refine J_iload_n 2 3 t3.1 dX9_upright_124 rfl rfl ?_
                  exact J_lv [1, 2, 4, 5, 6, 7, 8, 0] rfl (hEy17 t3.1)
                · refine J_iload 5 6 t3.2.2.2.1 dX9_upright_119 rfl ?_
                  refine J_goto 125 dX9_upright_121 (by decide) ?_
                  exact J_lv [1, 2, 4, 5, 6, 7, 8, 0] rfl (hEy17 t3.2.2.2.1)
            · refine J_icmp_eq 107 dX9_upright_66 (by decide) ?_ ?_
              · refine J_iconst 1 dX9_upright_107 (by decide) ?_
                refine J_goto 112 dX9_upright_108 (by decide) ?_
                exact J_lv [2, 3, 4, 5, 6, 7, 1, 0] rfl (hEy12 1)
              · refine J_iload 6 1 x8 dX9_upright_69 rfl ?_
                refine J_iload_n 3 5 t3.2.1 dX9_upright_71 rfl rfl ?_
                refine J_icmp_lt 107 dX9_upright_72 (by decide) ?_ ?_
                · refine J_iconst 1 dX9_upright_107 (by decide) ?_
                  refine J_goto 112 dX9_upright_108 (by decide) ?_
                  exact J_lv [2, 3, 4, 5, 6, 7, 1, 0] rfl (hEy12 1)
                · refine J_iload 6 1 x8 dX9_upright_75 rfl ?_
                  refine J_iload_n 3 5 t3.2.1 dX9_upright_77 rfl rfl ?_
                  refine J_icmp_ne 111 dX9_upright_78 (by decide) ?_ ?_
                  · refine J_iconst 0 dX9_upright_111 (by decide) ?_
                    exact J_lv [2, 3, 4, 5, 6, 7, 1, 0] rfl (hEy12 0)
                  · refine J_iload 7 0 x10 dX9_upright_81 rfl ?_
                    refine J_iload 4 6 t3.2.2.1 dX9_upright_83 rfl ?_
                    refine J_icmp_lt 107 dX9_upright_85 (by decide) ?_ ?_
                    · refine J_iconst 1 dX9_upright_107 (by decide) ?_
                      refine J_goto 112 dX9_upright_108 (by decide) ?_
                      exact J_lv [2, 3, 4, 5, 6, 7, 1, 0] rfl (hEy12 1)
                    · refine J_iload 7 0 x10 dX9_upright_88 rfl ?_
                      refine J_iload 4 6 t3.2.2.1 dX9_upright_90 rfl ?_
                      refine J_icmp_ne 111 dX9_upright_92 (by decide) ?_ ?_
                      · refine J_iconst 0 dX9_upright_111 (by decide) ?_
                        exact J_lv [2, 3, 4, 5, 6, 7, 1, 0] rfl (hEy12 0)
                      · refine J_iload 5 7 t3.2.2.2.1 dX9_upright_95 rfl ?_
                        refine J_callSP 1 [.int t3.2.2.2.1] dX9_upright_97 mv_X9_countOf mv_X9_countOfs lk_9_331 (ct_X9_countOf F hn P D T m6 t3.2.2.2.1) rfl ⟨by decide, by decide⟩ (Nat.le_of_ble_eq_true rfl) (fun x13 => ?_)
                        refine J_iload_n 2 4 t3.1 dX9_upright_100 rfl rfl ?_
                        refine J_callSP 1 [.int t3.1] dX9_upright_101 mv_X9_countOf mv_X9_countOfs lk_9_331 (ct_X9_countOf F hn P D T m6 t3.1) rfl ⟨by decide, by decide⟩ (Nat.le_of_ble_eq_true rfl) (fun x15 => ?_)
                        refine J_icmp_ge 111 dX9_upright_104 (by decide) ?_ ?_
                        · refine J_iconst 0 dX9_upright_111 (by decide) ?_
                          exact J_lv [2, 3, 4, 5, 6, 7, 1, 0] rfl (hEy12 0)
                        · refine J_iconst 1 dX9_upright_107 (by decide) ?_
                          refine J_goto 112 dX9_upright_108 (by decide) ?_
                          exact J_lv [2, 3, 4, 5, 6, 7, 1, 0] rfl (hEy12 1)
  · refine J_iconst (-1) dX9_upright_12 (by decide) ?_
    exact J_iretI dX9_upright_13 rfl rfl
def f_X9_water (F : Nat) (m : Mm) (a1 : Int32) (a2 : Int32) : Option (Int32 × Mm) :=
  (f_X9_in a1.toInt64 1 120).bind fun x1 => if x1 = 0 then (some ((-1), m)) else ((f_X9_isHold m a2).bind fun x3 => if x3 = 0 then (some ((-1), m)) else ((f_X9_copies F m 384 0).bind fun m6 => (f_X9_runs F m6 a1).bind fun m8 => (ald m8 114 512 ((384 : Int32) + a2)).bind fun x9 => some (x9, m8)))
set_option maxHeartbeats 4000000 in
set_option maxRecDepth 100000 in
theorem ct_X9_water (F : Nat) {n : Nat} (hn : 135 ≤ n) (P D : Nat) (T : Option Nat) (m : Mm) (a1 : Int32) (a2 : Int32) : Ct yX9_water cX9_water 3 (some .int) 6 128 [.ref 113, .int a1, .int a2] n n m (RF P D T) (rI (RF P D T) (f_X9_water F m a1 a2)) := by
  refine Ct.ofI (own := RX9) (nm := "water") [(0, .ref 113), (1, .int a1), (2, .int a2)] (by decide) (Nat.le_of_ble_eq_true rfl) rfl rfl rfl ?_
  unfold f_X9_water
  refine J_iload_n 1 1 a1 dX9_water_0 rfl rfl ?_
  refine J_i2l dX9_water_1 ?_
  refine J_lconst 1 dX9_water_2 (by decide) ?_
  refine J_ldc2 120 dX9_water_3 kl_9_256 ?_
  refine J_callSP 3 [.long a1.toInt64, .long 1, .long 120] dX9_water_6 mv_X9_in mv_X9_ins lk_9_114 (ct_X9_in F hn P D T m a1.toInt64 1 120) rfl ⟨by decide, by decide⟩ (Nat.le_of_ble_eq_true rfl) (fun x1 => ?_)
  refine J_if_eq 20 dX9_water_9 (by decide) ?_ ?_
  · refine J_iconst (-1) dX9_water_20 (by decide) ?_
    exact J_iretI dX9_water_21 rfl rfl
  · refine J_aload_n 0 0 113 dX9_water_12 rfl rfl ?_
    refine J_iload_n 2 2 a2 dX9_water_13 rfl rfl ?_
    refine J_callVP 113 9 1 [.int a2] dX9_water_14 mv_X9_isHold mv_X9_isHoldv lk_9_220 (ct_X9_isHold F hn P D T m a2) rfl rfl (by decide) rfl (Nat.lt_of_lt_of_le (Nat.le_of_ble_eq_true rfl) hn) ⟨by decide, by decide⟩ (Nat.le_of_ble_eq_true rfl) (fun x3 => ?_)
    refine J_if_ne 22 dX9_water_17 (by decide) ?_ ?_
    · refine J_aload_n 0 0 113 dX9_water_22 rfl rfl ?_
      refine J_sipush 384 dX9_water_23 (by decide) ?_
      refine J_iconst 0 dX9_water_26 (by decide) ?_
      refine J_callVV 113 9 2 [.int 384, .int 0] dX9_water_27 mv_X9_copies mv_X9_copiesv lk_9_261 (ct_X9_copies F hn P D T m 384 0) rfl rfl (by decide) rfl (Nat.lt_of_lt_of_le (Nat.le_of_ble_eq_true rfl) hn) ⟨by decide, by decide⟩ (Nat.le_of_ble_eq_true rfl) (fun m6 => ?_)
      refine J_aload_n 0 0 113 dX9_water_30 rfl rfl ?_
      refine J_iload_n 1 1 a1 dX9_water_31 rfl rfl ?_
      refine J_callVV 113 9 1 [.int a1] dX9_water_32 mv_X9_runs mv_X9_runsv lk_9_277 (ct_X9_runs F hn P D T m6 a1) rfl rfl (by decide) rfl (Nat.lt_of_lt_of_le (Nat.le_of_ble_eq_true rfl) hn) ⟨by decide, by decide⟩ (Nat.le_of_ble_eq_true rfl) (fun m8 => ?_)
      refine J_aload_n 0 0 113 dX9_water_35 rfl rfl ?_
      refine J_getR 113 9 0 114 dX9_water_36 fl_9_7 rfl rfl (Nat.lt_of_lt_of_le (Nat.le_of_ble_eq_true rfl) hn) rfl ?_
      refine J_sipush 384 dX9_water_39 (by decide) ?_
      refine J_iload_n 2 2 a2 dX9_water_42 rfl rfl ?_
      refine J_iadd dX9_water_43 ?_
      refine J_iald 114 512 dX9_water_44 rfl (Nat.lt_of_lt_of_le (Nat.le_of_ble_eq_true rfl) hn) (fun x9 => ?_)
      exact J_iretI dX9_water_45 rfl rfl
    · refine J_iconst (-1) dX9_water_20 (by decide) ?_
      exact J_iretI dX9_water_21 rfl rfl
def f_X9_wipe (m : Mm) : Option (Int32 × Mm) :=
  letv (m 113 36) fun x1 => letv (up2 m 113 36 0) fun m2 => some (x1, m2)
set_option maxHeartbeats 4000000 in
set_option maxRecDepth 100000 in
theorem ct_X9_wipe (F : Nat) {n : Nat} (hn : 135 ≤ n) (P D : Nat) (T : Option Nat) (m : Mm)  : Ct yX9_wipe cX9_wipe 2 (some .int) 0 0 [.ref 113] n n m (RF P D T) (rI (RF P D T) (f_X9_wipe m)) := by
  refine Ct.ofI (own := RX9) (nm := "wipe") [(0, .ref 113)] (by decide) (Nat.le_of_ble_eq_true rfl) rfl rfl rfl ?_
  unfold f_X9_wipe
  refine J_aload_n 0 0 113 dX9_wipe_0 rfl rfl ?_
  refine J_getI 113 9 36 dX9_wipe_1 fl_9_350 rfl rfl (Nat.lt_of_lt_of_le (Nat.le_of_ble_eq_true rfl) hn) ?_
  refine J_let (fun x1 => ?_)
  refine J_istore_n 1 [(1, .int x1), (0, .ref 113)] dX9_wipe_4 rfl (by decide) rfl ?_
  refine J_aload_n 0 1 113 dX9_wipe_5 rfl rfl ?_
  refine J_iconst 0 dX9_wipe_6 (by decide) ?_
  refine J_putI 113 9 36 dX9_wipe_7 fl_9_350 rfl rfl (Nat.lt_of_lt_of_le (Nat.le_of_ble_eq_true rfl) hn) rfl rfl rfl (fun m2 => ?_)
  refine J_iload_n 1 0 x1 dX9_wipe_10 rfl rfl ?_
  exact J_iretI dX9_wipe_11 rfl rfl

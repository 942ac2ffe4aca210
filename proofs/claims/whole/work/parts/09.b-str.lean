theorem SX.to {base : Nat} {sa sv : Nat → Nat} {s U : State} (h : SX base sa sv s) (hW : s.WarmedH U.vm) (hq : ∀ a : Nat, a < s.heap.size → ¬ AB base a → U.heap[a]? = s.heap[a]?) : SX base sa sv U := by
  obtain ⟨h3, h4, h5, h6⟩ := h
  exact ⟨((h3.moved hW.alike).kept hq), fun i hi => (h4 i hi).warm hW, (h5.moved hW.alike).kept hq, (h6.moved hW.alike).kept hq⟩
def MS (l : Launch) (y : MethodName) (cc : ByteArray) (nL : Nat) (ret : Option FieldType) (fr lo : Nat) (av : List Value) (base : Nat) (sa sv : Nat → Nat) (res : Option Value) : Prop :=
  Met l y (Cond.code y cc nL ret :: TBg) { frames := fr, cells := 0, slots := 0, locals := lo } (va_Pc av (fun U => SX base sa sv U)) (fun _ st oc t => oc = .returned res ∧ t.heap = st.heap) 0 0 (fun _ => False)
def MB (own : String) (cc : ByteArray) (nL : Nat) (ret : Option FieldType) (fr lo : Nat) (p : Program) (R : Room) (s : State) (mi : MethodId) (args : Array Value) (meth : Method) (c : Code) (base : Nat) (sa sv : Nat → Nat) : Prop :=
  p.tables.exec = Jvm.exec ∧ c.code = cc ∧ meth.sig.returnType = ret ∧ c.maxLocals = nL ∧ s.vm.findClass own = some mi.cls ∧ (∀ w ∈ TBg, w.before args s = true) ∧ meth.locks = false ∧ SX base sa sv s ∧ fr ≤ R.frames ∧ lo ≤ R.locals
theorem MS.of {l : Launch} {y : MethodName} {cc : ByteArray} {nL : Nat} {ret : Option FieldType} {fr lo : Nat} {av : List Value} {base : Nat} {sa sv : Nat → Nat} {res : Option Value} (lw : List (Nat × Value)) (hy : plainName y.cls = true) (hav : (lg_sl av).length ≤ nL) (hlw : lv_args 0 av = lw)
    (body : ∀ (p : Program) (e : Env) (s : State) (mi : MethodId) (args : Array Value) (below : List Frame) (meth : Method) (c : Code) (ls : Array Slot), MB y.cls cc nL ret fr lo p { frames := fr, cells := 0, slots := 0, locals := lo } s mi args meth c base sa sv → lv_has ls nL lw →
      W p l e { frames := fr, cells := 0, slots := 0, locals := lo } s mi args below meth c s.heap [] 0 0 (MQ below (fun _ st oc t => oc = .returned res ∧ t.heap = st.heap) args s 0 0 (fun _ => False)) (F0 mi 0 ls [])) : MS l y cc nL ret fr lo av base sa sv res := by
  subst hlw
  refine Met.ofW (cc := cc) (maxL := nL) (ret := ret) hy rfl ?_
  intro p e s mi args below meth c s₁ B hml hv
  obtain ⟨rfl, hSX⟩ := hv
  have hts := atoms_spec (ws := Cond.code y cc nL ret :: TBg) B.pre
  have hown : s.vm.findClass y.cls = some mi.cls := findClass_of_methodNamed B.named
  have hl := lv_entry av (n := nL) hav
  rw [lg_entry_eq]
  generalize (lg_sl av ++ List.replicate (nL - (lg_sl av).length) Slot.unset).toArray = ls at hl ⊢
  exact body p e s mi av.toArray below meth c ls ⟨B.exec, B.bytes, B.returns, hml, hown, fun w hw => hts w (List.mem_cons_of_mem _ hw), B.notSynchronized, hSX, Nat.le_refl _, Nat.le_refl _⟩ hl
theorem blindS {base : Nat} {sa sv : Nat → Nat} {av : List Value} : FrameBlind (va_Pc av (fun U => SX base sa sv U)) := by
  intro a U g mk q
  obtain ⟨q0, q1⟩ := q
  exact ⟨q0, q1.to (State.WarmedH.refl U) (fun _ _ _ => rfl)⟩
section MSC
variable {p : Program} {l : Launch} {e : Env} {R : Room} {s : State} {mi : MethodId} {args : Array Value} {below : List Frame} {meth : Method} {c : Code} {Q : State → Prop}
variable {own : String} {cc : ByteArray} {nL : Nat} {ret : Option FieldType} {fr lo : Nat} {base : Nat} {sa sv : Nat → Nat} {pc : Nat} {ls : Array Slot} {rest : List Value}
theorem MS.callS {ix : Nat} {y : MethodName} {bytes : ByteArray} {maxL : Nat} {rt : Option FieldType} {frc loc : Nat} {res : Option Value} (As : List Value) (B : MB own cc nL ret fr lo p R s mi args meth c base sa sv) (hM : MS l y bytes maxL rt frc loc As base sa sv res) (hmv : MV y bytes maxL rt As.length) (hv : Cond.static y ∈ TBg) (hl1 : Cond.methodLink own ix y ∈ TBg) (hfr : frc + 1 ≤ fr ∧ 8 + (maxL + 11) + loc ≤ lo) (hcat : (rest.map fun v => v.category).sum ≤ 8) (hl : ls.size = nL) (hd : decode cc pc = .ok (.invokestatic ix, 3))
    (kk : W p l e R s mi args below meth c s.heap [] 0 0 Q (F0 mi (pc + 3) ls (res.toList ++ rest))) : W p l e R s mi args below meth c s.heap [] 0 0 Q (F0 mi pc ls (As.reverse ++ rest)) := by
  obtain ⟨c1, c2, c3, c4, c5, c6, c7, c8, c9, c10⟩ := B
  obtain ⟨w1, w2, w3⟩ := hmv
  refine W.callX (W.runS (As := As) (rest := rest) ⟨c1, c2, c4, c5, c6⟩ hM (va_cwS As.length c6 (fun w hw => by
      rcases List.mem_append.mp hw with h9 | h9
      · simp only [List.mem_cons, List.not_mem_nil, or_false] at h9
        rcases h9 with rfl | rfl | rfl
        · exact TBg_good _ hl1
        · exact TBg_good _ hv
        · exact TBg_good _ w2
      · exact TBg_code w1 w h9) rfl rfl rfl w3 ⟨Nat.le_trans hfr.1 c9, Nat.le_trans hfr.2 c10⟩) ⟨blindS, fun U hU hW => ⟨rfl, c8.to hW (fun q _ _ => by rw [hU])⟩⟩ rfl rfl hl rfl (lv_room hcat) hd ⟨Nat.zero_le _, Nat.zero_le _⟩) (fun x h => h.elim) (fun v st₀ t h0 hQ => ?_)
  obtain ⟨h1, h2⟩ := hQ
  cases h1
  rw [h2, h0]
  exact kk
theorem MS.callV {ix j : Nat} {y : MethodName} {bytes : ByteArray} {maxL : Nat} {rt : Option FieldType} {frc loc : Nat} {res : Option Value} (hj : j < nS) (As : List Value) (B : MB own cc nL ret fr lo p R s mi args meth c base sa sv) (hM : MS l y bytes maxL rt frc loc (.ref (sa j) :: As) base sa sv res) (hmv : MV y bytes maxL rt As.length) (hv : Cond.instanceMethod y ∈ TBg ∧ Cond.selects y.cls y y ∈ TBg) (hl1 : Cond.methodLink own ix y ∈ TBg) (hcn : "java/lang/String" = y.cls) (hfr : frc + 1 ≤ fr ∧ 8 + (maxL + 11) + loc ≤ lo) (hcat : (rest.map fun v => v.category).sum ≤ 8) (hl : ls.size = nL) (hd : decode cc pc = .ok (.invokevirtual ix, 3))
    (kk : W p l e R s mi args below meth c s.heap [] 0 0 Q (F0 mi (pc + 3) ls (res.toList ++ rest))) : W p l e R s mi args below meth c s.heap [] 0 0 Q (F0 mi pc ls (As.reverse ++ .ref (sa j) :: rest)) := by
  obtain ⟨c1, c2, c3, c4, c5, c6, c7, c8, c9, c10⟩ := B
  obtain ⟨w1, w2, w3⟩ := hmv
  refine W.callX (W.runV (C := y.cls) (As := As) (rest := rest) ⟨c1, c2, c4, c5, c6⟩ hM (cwV As.length c6 (fun w hw => by
      rcases List.mem_append.mp hw with h9 | h9
      · simp only [List.mem_cons, List.not_mem_nil, or_false] at h9
        rcases h9 with rfl | rfl | rfl | rfl
        · exact TBg_good _ hl1
        · exact TBg_good _ hv.1
        · exact TBg_good _ hv.2
        · exact TBg_good _ w2
      · exact TBg_code w1 w h9) rfl rfl rfl ⟨rfl, w3⟩ ⟨Nat.le_trans hfr.1 c9, Nat.le_trans hfr.2 c10⟩) (by rw [← hcn]; exact ⟨blindS, vk_recv c8.1 hj va_S.rf, fun U hU hW => ⟨rfl, c8.to hW (fun q _ _ => by rw [hU])⟩⟩) rfl rfl hl rfl (lv_room hcat) hd ⟨Nat.zero_le _, Nat.zero_le _⟩) (fun x h => h.elim) (fun v st₀ t h0 hQ => ?_)
  obtain ⟨h1, h2⟩ := hQ
  cases h1
  rw [h2, h0]
  exact kk
end MSC
theorem mv_S_coder : MV yJ0_coder_7d493 cJ0_coder_7d493 1 (some .byte) 0 := ⟨tb 521 (by decide +kernel) rfl, tb 14 (by decide +kernel) rfl, by decide +kernel⟩
theorem mv_S_coderv : Cond.instanceMethod yJ0_coder_7d493 ∈ TBg ∧ Cond.selects yJ0_coder_7d493.cls yJ0_coder_7d493 yJ0_coder_7d493 ∈ TBg := ⟨tb 519 (by decide +kernel) rfl, tb 520 (by decide +kernel) rfl⟩
theorem mv_S_lat : MV yJ0_isLatin1_aae02 cJ0_isLatin1_aae02 1 (some .boolean) 0 := ⟨tb 531 (by decide +kernel) rfl, tb 14 (by decide +kernel) rfl, by decide +kernel⟩
theorem mv_S_latv : Cond.instanceMethod yJ0_isLatin1_aae02 ∈ TBg ∧ Cond.selects yJ0_isLatin1_aae02.cls yJ0_isLatin1_aae02 yJ0_isLatin1_aae02 ∈ TBg := ⟨tb 529 (by decide +kernel) rfl, tb 530 (by decide +kernel) rfl⟩
theorem mv_S_l1 : MV yJ1_charAt_3b067 cJ1_charAt_3b067 2 (some .char) 2 := ⟨tb 534 (by decide +kernel) rfl, tb 15 (by decide +kernel) rfl, by decide +kernel⟩
theorem mv_S_l1s : Cond.static yJ1_charAt_3b067 ∈ TBg := tb 533 (by decide +kernel) rfl
theorem mv_S_chk : MV yJ0_checkIndex_df160 cJ0_checkIndex_df160 2 none 2 := ⟨tb 537 (by decide +kernel) rfl, tb 14 (by decide +kernel) rfl, by decide +kernel⟩
theorem mv_S_chks : Cond.static yJ0_checkIndex_df160 ∈ TBg := tb 536 (by decide +kernel) rfl
theorem mv_S_pchk : MV yJ3_checkIndex_8e157 cJ3_checkIndex_8e157 3 (some .int) 3 := ⟨tb 542 (by decide +kernel) rfl, tb 16 (by decide +kernel) rfl, by decide +kernel⟩
theorem mv_S_pchks : Cond.static yJ3_checkIndex_8e157 ∈ TBg := tb 541 (by decide +kernel) rfl
theorem ls_coder : Cond.methodLink "java/lang/String" 335 yJ0_coder_7d493 ∈ TBg := tb 518 (by decide +kernel) rfl
theorem ls_lat : Cond.methodLink "java/lang/String" 492 yJ0_isLatin1_aae02 ∈ TBg := tb 528 (by decide +kernel) rfl
theorem ls_l1 : Cond.methodLink "java/lang/String" 495 yJ1_charAt_3b067 ∈ TBg := tb 532 (by decide +kernel) rfl
theorem ls_chk : Cond.methodLink "java/lang/StringLatin1" 9 yJ0_checkIndex_df160 ∈ TBg := tb 535 (by decide +kernel) rfl
theorem ls_pchk : Cond.methodLink "java/lang/String" 1059 yJ3_checkIndex_8e157 ∈ TBg := tb 540 (by decide +kernel) rfl
theorem fs_val : Cond.fieldLink "java/lang/String" 9 "java/lang/String" "value" "[B" ∈ TBg := tb 1514 (by decide +kernel) rfl
theorem fs_cod : Cond.fieldLink "java/lang/String" 15 "java/lang/String" "coder" "B" ∈ TBg := tb 1515 (by decide +kernel) rfl
theorem fs_cs : Cond.fieldLink "java/lang/String" 38 "java/lang/String" "COMPACT_STRINGS" "Z" ∈ TBg := tb 522 (by decide +kernel) rfl
theorem fs_fm : Cond.fieldLink "java/lang/String" 1053 "jdk/internal/util/Preconditions" "SIOOBE_FORMATTER" "Ljava/util/function/BiFunction;" ∈ TBg := tb 538 (by decide +kernel) rfl
theorem dJ0_length_8abf5_0 : decode cJ0_length_8abf5 0 = .ok (.aload_n 0, 1) := by decide +kernel
theorem dJ0_length_8abf5_1 : decode cJ0_length_8abf5 1 = .ok (.getfield 9, 3) := by decide +kernel
theorem dJ0_length_8abf5_4 : decode cJ0_length_8abf5 4 = .ok (.arraylength, 1) := by decide +kernel
theorem dJ0_length_8abf5_5 : decode cJ0_length_8abf5 5 = .ok (.aload_n 0, 1) := by decide +kernel
theorem dJ0_length_8abf5_6 : decode cJ0_length_8abf5 6 = .ok (.invokevirtual 335, 3) := by decide +kernel
theorem dJ0_length_8abf5_9 : decode cJ0_length_8abf5 9 = .ok (.ishr, 1) := by decide +kernel
theorem dJ0_length_8abf5_10 : decode cJ0_length_8abf5 10 = .ok (.ireturn, 1) := by decide +kernel
theorem dJ0_coder_7d493_0 : decode cJ0_coder_7d493 0 = .ok (.getstatic 38, 3) := by decide +kernel
theorem dJ0_coder_7d493_3 : decode cJ0_coder_7d493 3 = .ok (.ifCond .eq 10, 3) := by decide +kernel
theorem dJ0_coder_7d493_6 : decode cJ0_coder_7d493 6 = .ok (.aload_n 0, 1) := by decide +kernel
theorem dJ0_coder_7d493_7 : decode cJ0_coder_7d493 7 = .ok (.getfield 15, 3) := by decide +kernel
theorem dJ0_coder_7d493_10 : decode cJ0_coder_7d493 10 = .ok (.goto 4, 3) := by decide +kernel
theorem dJ0_coder_7d493_13 : decode cJ0_coder_7d493 13 = .ok (.iconst 1, 1) := by decide +kernel
theorem dJ0_coder_7d493_14 : decode cJ0_coder_7d493 14 = .ok (.ireturn, 1) := by decide +kernel
theorem dJ0_charAt_5068e_0 : decode cJ0_charAt_5068e 0 = .ok (.aload_n 0, 1) := by decide +kernel
theorem dJ0_charAt_5068e_1 : decode cJ0_charAt_5068e 1 = .ok (.invokevirtual 492, 3) := by decide +kernel
theorem dJ0_charAt_5068e_4 : decode cJ0_charAt_5068e 4 = .ok (.ifCond .eq 12, 3) := by decide +kernel
theorem dJ0_charAt_5068e_7 : decode cJ0_charAt_5068e 7 = .ok (.aload_n 0, 1) := by decide +kernel
theorem dJ0_charAt_5068e_8 : decode cJ0_charAt_5068e 8 = .ok (.getfield 9, 3) := by decide +kernel
theorem dJ0_charAt_5068e_11 : decode cJ0_charAt_5068e 11 = .ok (.iload_n 1, 1) := by decide +kernel
theorem dJ0_charAt_5068e_12 : decode cJ0_charAt_5068e 12 = .ok (.invokestatic 495, 3) := by decide +kernel
theorem dJ0_charAt_5068e_15 : decode cJ0_charAt_5068e 15 = .ok (.ireturn, 1) := by decide +kernel
theorem dJ0_charAt_5068e_16 : decode cJ0_charAt_5068e 16 = .ok (.aload_n 0, 1) := by decide +kernel
theorem dJ0_charAt_5068e_17 : decode cJ0_charAt_5068e 17 = .ok (.getfield 9, 3) := by decide +kernel
theorem dJ0_charAt_5068e_20 : decode cJ0_charAt_5068e 20 = .ok (.iload_n 1, 1) := by decide +kernel
theorem dJ0_charAt_5068e_21 : decode cJ0_charAt_5068e 21 = .ok (.invokestatic 498, 3) := by decide +kernel
theorem dJ0_charAt_5068e_24 : decode cJ0_charAt_5068e 24 = .ok (.ireturn, 1) := by decide +kernel
theorem dJ0_isLatin1_aae02_0 : decode cJ0_isLatin1_aae02 0 = .ok (.getstatic 38, 3) := by decide +kernel
theorem dJ0_isLatin1_aae02_3 : decode cJ0_isLatin1_aae02 3 = .ok (.ifCond .eq 14, 3) := by decide +kernel
theorem dJ0_isLatin1_aae02_6 : decode cJ0_isLatin1_aae02 6 = .ok (.aload_n 0, 1) := by decide +kernel
theorem dJ0_isLatin1_aae02_7 : decode cJ0_isLatin1_aae02 7 = .ok (.getfield 15, 3) := by decide +kernel
theorem dJ0_isLatin1_aae02_10 : decode cJ0_isLatin1_aae02 10 = .ok (.ifCond .ne 7, 3) := by decide +kernel
theorem dJ0_isLatin1_aae02_13 : decode cJ0_isLatin1_aae02 13 = .ok (.iconst 1, 1) := by decide +kernel
theorem dJ0_isLatin1_aae02_14 : decode cJ0_isLatin1_aae02 14 = .ok (.goto 4, 3) := by decide +kernel
theorem dJ0_isLatin1_aae02_17 : decode cJ0_isLatin1_aae02 17 = .ok (.iconst 0, 1) := by decide +kernel
theorem dJ0_isLatin1_aae02_18 : decode cJ0_isLatin1_aae02 18 = .ok (.ireturn, 1) := by decide +kernel
theorem dJ1_charAt_3b067_0 : decode cJ1_charAt_3b067 0 = .ok (.iload_n 1, 1) := by decide +kernel
theorem dJ1_charAt_3b067_1 : decode cJ1_charAt_3b067 1 = .ok (.aload_n 0, 1) := by decide +kernel
theorem dJ1_charAt_3b067_2 : decode cJ1_charAt_3b067 2 = .ok (.arraylength, 1) := by decide +kernel
theorem dJ1_charAt_3b067_3 : decode cJ1_charAt_3b067 3 = .ok (.invokestatic 9, 3) := by decide +kernel
theorem dJ1_charAt_3b067_6 : decode cJ1_charAt_3b067 6 = .ok (.aload_n 0, 1) := by decide +kernel
theorem dJ1_charAt_3b067_7 : decode cJ1_charAt_3b067 7 = .ok (.iload_n 1, 1) := by decide +kernel
theorem dJ1_charAt_3b067_8 : decode cJ1_charAt_3b067 8 = .ok (.baload, 1) := by decide +kernel
theorem dJ1_charAt_3b067_9 : decode cJ1_charAt_3b067 9 = .ok (.sipush 255, 3) := by decide +kernel
theorem dJ1_charAt_3b067_12 : decode cJ1_charAt_3b067 12 = .ok (.iand, 1) := by decide +kernel
theorem dJ1_charAt_3b067_13 : decode cJ1_charAt_3b067 13 = .ok (.i2c, 1) := by decide +kernel
theorem dJ1_charAt_3b067_14 : decode cJ1_charAt_3b067 14 = .ok (.ireturn, 1) := by decide +kernel
theorem dJ0_checkIndex_df160_0 : decode cJ0_checkIndex_df160 0 = .ok (.iload_n 0, 1) := by decide +kernel
theorem dJ0_checkIndex_df160_1 : decode cJ0_checkIndex_df160 1 = .ok (.iload_n 1, 1) := by decide +kernel
theorem dJ0_checkIndex_df160_2 : decode cJ0_checkIndex_df160 2 = .ok (.getstatic 1053, 3) := by decide +kernel
theorem dJ0_checkIndex_df160_5 : decode cJ0_checkIndex_df160 5 = .ok (.invokestatic 1059, 3) := by decide +kernel
theorem dJ0_checkIndex_df160_8 : decode cJ0_checkIndex_df160 8 = .ok (.pop, 1) := by decide +kernel
theorem dJ0_checkIndex_df160_9 : decode cJ0_checkIndex_df160 9 = .ok (.return_, 1) := by decide +kernel
theorem dJ3_checkIndex_8e157_0 : decode cJ3_checkIndex_8e157 0 = .ok (.iload_n 0, 1) := by decide +kernel
theorem dJ3_checkIndex_8e157_1 : decode cJ3_checkIndex_8e157 1 = .ok (.ifCond .lt 8, 3) := by decide +kernel
theorem dJ3_checkIndex_8e157_4 : decode cJ3_checkIndex_8e157 4 = .ok (.iload_n 0, 1) := by decide +kernel
theorem dJ3_checkIndex_8e157_5 : decode cJ3_checkIndex_8e157 5 = .ok (.iload_n 1, 1) := by decide +kernel
theorem dJ3_checkIndex_8e157_6 : decode cJ3_checkIndex_8e157 6 = .ok (.if_icmp .lt 10, 3) := by decide +kernel
theorem dJ3_checkIndex_8e157_9 : decode cJ3_checkIndex_8e157 9 = .ok (.aload_n 2, 1) := by decide +kernel
theorem dJ3_checkIndex_8e157_10 : decode cJ3_checkIndex_8e157 10 = .ok (.iload_n 0, 1) := by decide +kernel
theorem dJ3_checkIndex_8e157_11 : decode cJ3_checkIndex_8e157 11 = .ok (.iload_n 1, 1) := by decide +kernel
theorem dJ3_checkIndex_8e157_12 : decode cJ3_checkIndex_8e157 12 = .ok (.invokestatic 95, 3) := by decide +kernel
theorem dJ3_checkIndex_8e157_15 : decode cJ3_checkIndex_8e157 15 = .ok (.athrow, 1) := by decide +kernel
theorem dJ3_checkIndex_8e157_16 : decode cJ3_checkIndex_8e157 16 = .ok (.iload_n 0, 1) := by decide +kernel
theorem dJ3_checkIndex_8e157_17 : decode cJ3_checkIndex_8e157 17 = .ok (.ireturn, 1) := by decide +kernel
set_option maxHeartbeats 4000000 in
set_option maxRecDepth 100000 in
theorem ms_pchk (l : Launch) (base : Nat) (sa sv : Nat → Nat) (i N : Int32) (v : Value) (hv : v.category = 1) (h0 : ¬ i < 0) (h1 : i < N) : MS l yJ3_checkIndex_8e157 cJ3_checkIndex_8e157 3 (some .int) 0 0 [.int i, .int N, v] base sa sv (some (.int i)) := by
  refine MS.of [(0, .int i), (1, .int N), (2, v)] (by decide) (by cases v <;> first | exact Nat.le_of_ble_eq_true rfl | (simp [Value.category] at hv)) (by cases v <;> first | rfl | (simp [Value.category] at hv)) ?_
  intro p e s mi args below meth c ls B hl
  obtain ⟨hx, hb, hr, hml, hown, hts, hlocks, hSX, hfr, hlo⟩ := id B
  refine lv_iload_n hx hb dJ3_checkIndex_8e157_0 rfl (lv_at hl 0 rfl) ?_
  refine lv_if_lt (tgt := 9) hx hb dJ3_checkIndex_8e157_1 (by decide) (fun hc => absurd hc h0) (fun _ => ?_)
  refine lv_iload_n hx hb dJ3_checkIndex_8e157_4 rfl (lv_at hl 0 rfl) ?_
  refine lv_iload_n hx hb dJ3_checkIndex_8e157_5 rfl (lv_at hl 1 rfl) ?_
  refine lv_icmp_lt (tgt := 16) hx hb dJ3_checkIndex_8e157_6 (by decide) (fun _ => ?_) (fun hc => absurd h1 hc)
  refine lv_iload_n hx hb dJ3_checkIndex_8e157_16 rfl (lv_at hl 0 rfl) ?_
  exact W.iret (v := i) hx hb hr (fun t ht _ => ⟨rfl, ht⟩) (fun _ h => by cases h) dJ3_checkIndex_8e157_17 hlocks
set_option maxHeartbeats 4000000 in
set_option maxRecDepth 100000 in
theorem ms_chk (l : Launch) (base : Nat) (sa sv : Nat → Nat) (i N : Int32) (h0 : ¬ i < 0) (h1 : i < N) : MS l yJ0_checkIndex_df160 cJ0_checkIndex_df160 2 none 1 22 [.int i, .int N] base sa sv none := by
  refine MS.of [(0, .int i), (1, .int N)] (by decide) (Nat.le_of_ble_eq_true rfl) rfl ?_
  intro p e s mi args below meth c ls B hl
  obtain ⟨hx, hb, hr, hml, hown, hts, hlocks, hSX, hfr, hlo⟩ := id B
  refine lv_iload_n hx hb dJ0_checkIndex_df160_0 rfl (lv_at hl 0 rfl) ?_
  refine lv_iload_n hx hb dJ0_checkIndex_df160_1 rfl (lv_at hl 1 rfl) ?_
  have key : ∀ v : Value, v.category = 1 → W p l e { frames := 1, cells := 0, slots := 0, locals := 22 } s mi args below meth c s.heap [] 0 0 (MQ below (fun _ st oc t => oc = .returned none ∧ t.heap = st.heap) args s 0 0 (fun _ => False)) (F0 mi 5 ls [v, .int N, .int i]) := by
    intro v hv
    refine MS.callS (rest := []) [.int i, .int N, v] B (ms_pchk l base sa sv i N v hv h0 h1) mv_S_pchk mv_S_pchks ls_pchk ⟨by decide, by decide⟩ (Nat.le_of_ble_eq_true rfl) hl.1 dJ0_checkIndex_df160_5 ?_
    refine lv_pop hx hb dJ0_checkIndex_df160_8 rfl ?_
    exact W.vret hx hb hr (fun t ht _ => ⟨rfl, ht⟩) (fun _ h => by cases h) dJ0_checkIndex_df160_9 hlocks
  rcases hSX.2.2.2 with hz | ⟨t, hz⟩
  · refine va_gets hx hb hz va_S.rf hown (hts _ fs_fm) (fun _ h => h) dJ0_checkIndex_df160_2 ?_
    exact key _ rfl
  · refine va_gets hx hb hz va_S.rf hown (hts _ fs_fm) (fun _ h => h) dJ0_checkIndex_df160_2 ?_
    exact key _ rfl
set_option maxHeartbeats 4000000 in
set_option maxRecDepth 100000 in
theorem ms_l1 (l : Launch) (base : Nat) (sa sv : Nat → Nat) (j : Nat) (hj : j < nS) (i : Int32) (hi : vp_in i (lenS.getD j 0)) (hN : lenS.getD j 0 < 2 ^ 31) : MS l yJ1_charAt_3b067 cJ1_charAt_3b067 2 (some .char) 2 43 [.ref (sv j), .int i] base sa sv (some (.int ((bytS.getD j []).getD i.toNatClampNeg 0 &&& 255))) := by
  have h0 : ¬ i < 0 := fun h => hi (Or.inl h)
  have h1 : i < nI (lenS.getD j 0) := by
    obtain ⟨q, hq, rfl⟩ := vp_in_of hi hN
    exact nI_lt hq hN
  refine MS.of [(0, .ref (sv j)), (1, .int i)] (by decide) (Nat.le_of_ble_eq_true rfl) rfl ?_
  intro p e s mi args below meth c ls B hl
  obtain ⟨hx, hb, hr, hml, hown, hts, hlocks, hSX, hfr, hlo⟩ := id B
  have hT := (hSX.1.1 j hj).2.2.2
  refine lv_iload_n hx hb dJ1_charAt_3b067_0 rfl (lv_at hl 1 rfl) ?_
  refine lv_aload_n hx hb dJ1_charAt_3b067_1 rfl (lv_at hl 0 rfl) ?_
  refine va_tlen (v := nI (lenS.getD j 0)) hx hb hT va_S.rf rfl dJ1_charAt_3b067_2 ?_
  refine MS.callS (rest := []) [.int i, .int (nI (lenS.getD j 0))] B (ms_chk l base sa sv i _ h0 h1) mv_S_chk mv_S_chks ls_chk ⟨by decide, by decide⟩ (Nat.le_of_ble_eq_true rfl) hl.1 dJ1_charAt_3b067_3 ?_
  refine lv_aload_n hx hb dJ1_charAt_3b067_6 rfl (lv_at hl 0 rfl) ?_
  refine lv_iload_n hx hb dJ1_charAt_3b067_7 rfl (lv_at hl 1 rfl) ?_
  refine va_tb hx hb hT va_S.rf hi rfl dJ1_charAt_3b067_8 ?_
  refine lv_sipush (v := 255) hx hb dJ1_charAt_3b067_9 (by decide) ?_
  refine lv_iand hx hb dJ1_charAt_3b067_12 ?_
  refine lv_i2c hx hb dJ1_charAt_3b067_13 (sc_c2 _) ?_
  exact W.zret hx hb hr (sc_nar _) (fun t ht _ => ⟨rfl, ht⟩) (fun _ h => by cases h) dJ1_charAt_3b067_14 hlocks
set_option maxHeartbeats 4000000 in
set_option maxRecDepth 100000 in
theorem ms_lat (l : Launch) (base : Nat) (sa sv : Nat → Nat) (j : Nat) (hj : j < nS) : MS l yJ0_isLatin1_aae02 cJ0_isLatin1_aae02 1 (some .boolean) 0 0 [.ref (sa j)] base sa sv (some (.int 1)) := by
  refine MS.of [(0, .ref (sa j))] (by decide) (Nat.le_of_ble_eq_true rfl) rfl ?_
  intro p e s mi args below meth c ls B hl
  obtain ⟨hx, hb, hr, hml, hown, hts, hlocks, hSX, hfr, hlo⟩ := id B
  refine va_gets hx hb hSX.2.2.1 va_S.rf hown (hts _ fs_cs) (fun _ h => h) dJ0_isLatin1_aae02_0 ?_
  refine lv_if_eq (tgt := 17) hx hb dJ0_isLatin1_aae02_3 (by decide) (fun hc => absurd hc (by decide)) (fun _ => ?_)
  refine lv_aload_n hx hb dJ0_isLatin1_aae02_6 rfl (lv_at hl 0 rfl) ?_
  refine vk_getf hx hb (hSX.1.1 j hj).2.1 va_S.rf hown (hts _ fs_cod) (fun _ h => h) dJ0_isLatin1_aae02_7 ?_
  refine lv_if_ne (tgt := 17) hx hb dJ0_isLatin1_aae02_10 (by decide) (fun hc => absurd rfl hc) (fun _ => ?_)
  refine lv_iconst (v := 1) hx hb dJ0_isLatin1_aae02_13 (by decide) ?_
  refine lv_goto (tgt := 18) hx hb dJ0_isLatin1_aae02_14 (by decide) ?_
  exact W.zret hx hb hr rfl (fun t ht _ => ⟨rfl, ht⟩) (fun _ h => by cases h) dJ0_isLatin1_aae02_18 hlocks
set_option maxHeartbeats 4000000 in
set_option maxRecDepth 100000 in
theorem ms_coder (l : Launch) (base : Nat) (sa sv : Nat → Nat) (j : Nat) (hj : j < nS) : MS l yJ0_coder_7d493 cJ0_coder_7d493 1 (some .byte) 0 0 [.ref (sa j)] base sa sv (some (.int 0)) := by
  refine MS.of [(0, .ref (sa j))] (by decide) (Nat.le_of_ble_eq_true rfl) rfl ?_
  intro p e s mi args below meth c ls B hl
  obtain ⟨hx, hb, hr, hml, hown, hts, hlocks, hSX, hfr, hlo⟩ := id B
  refine va_gets hx hb hSX.2.2.1 va_S.rf hown (hts _ fs_cs) (fun _ h => h) dJ0_coder_7d493_0 ?_
  refine lv_if_eq (tgt := 13) hx hb dJ0_coder_7d493_3 (by decide) (fun hc => absurd hc (by decide)) (fun _ => ?_)
  refine lv_aload_n hx hb dJ0_coder_7d493_6 rfl (lv_at hl 0 rfl) ?_
  refine vk_getf hx hb (hSX.1.1 j hj).2.1 va_S.rf hown (hts _ fs_cod) (fun _ h => h) dJ0_coder_7d493_7 ?_
  refine lv_goto (tgt := 14) hx hb dJ0_coder_7d493_10 (by decide) ?_
  exact W.zret hx hb hr rfl (fun t ht _ => ⟨rfl, ht⟩) (fun _ h => by cases h) dJ0_coder_7d493_14 hlocks
set_option maxHeartbeats 4000000 in
set_option maxRecDepth 100000 in
theorem ms_charAt (l : Launch) (base : Nat) (sa sv : Nat → Nat) (j : Nat) (hj : j < nS) (i : Int32) (hi : vp_in i (lenS.getD j 0)) (hN : lenS.getD j 0 < 2 ^ 31) : MS l yJ0_charAt_5068e cJ0_charAt_5068e 2 (some .char) 3 64 [.ref (sa j), .int i] base sa sv (some (.int ((bytS.getD j []).getD i.toNatClampNeg 0 &&& 255))) := by
  refine MS.of [(0, .ref (sa j)), (1, .int i)] (by decide) (Nat.le_of_ble_eq_true rfl) rfl ?_
  intro p e s mi args below meth c ls B hl
  obtain ⟨hx, hb, hr, hml, hown, hts, hlocks, hSX, hfr, hlo⟩ := id B
  refine lv_aload_n hx hb dJ0_charAt_5068e_0 rfl (lv_at hl 0 rfl) ?_
  refine MS.callV (rest := []) hj [] B (ms_lat l base sa sv j hj) mv_S_lat mv_S_latv ls_lat rfl ⟨by decide, by decide⟩ (Nat.le_of_ble_eq_true rfl) hl.1 dJ0_charAt_5068e_1 ?_
  refine lv_if_eq (tgt := 16) hx hb dJ0_charAt_5068e_4 (by decide) (fun hc => absurd hc (by decide)) (fun _ => ?_)
  refine lv_aload_n hx hb dJ0_charAt_5068e_7 rfl (lv_at hl 0 rfl) ?_
  refine vk_getf hx hb (hSX.1.1 j hj).2.2.1 va_S.rf hown (hts _ fs_val) (fun _ h => h) dJ0_charAt_5068e_8 ?_
  refine lv_iload_n hx hb dJ0_charAt_5068e_11 rfl (lv_at hl 1 rfl) ?_
  refine MS.callS (rest := []) [.ref (sv j), .int i] B (ms_l1 l base sa sv j hj i hi hN) mv_S_l1 mv_S_l1s ls_l1 ⟨by decide, by decide⟩ (Nat.le_of_ble_eq_true rfl) hl.1 dJ0_charAt_5068e_12 ?_
  exact W.zret hx hb hr (sc_nar _) (fun t ht _ => ⟨rfl, ht⟩) (fun _ h => by cases h) dJ0_charAt_5068e_15 hlocks
set_option maxHeartbeats 4000000 in
set_option maxRecDepth 100000 in
theorem ms_length (l : Launch) (base : Nat) (sa sv : Nat → Nat) (j : Nat) (hj : j < nS) : MS l yJ0_length_8abf5 cJ0_length_8abf5 1 (some .int) 1 20 [.ref (sa j)] base sa sv (some (.int (nI (lenS.getD j 0)))) := by
  refine MS.of [(0, .ref (sa j))] (by decide) (Nat.le_of_ble_eq_true rfl) rfl ?_
  intro p e s mi args below meth c ls B hl
  obtain ⟨hx, hb, hr, hml, hown, hts, hlocks, hSX, hfr, hlo⟩ := id B
  refine lv_aload_n hx hb dJ0_length_8abf5_0 rfl (lv_at hl 0 rfl) ?_
  refine vk_getf hx hb (hSX.1.1 j hj).2.2.1 va_S.rf hown (hts _ fs_val) (fun _ h => h) dJ0_length_8abf5_1 ?_
  refine va_tlen (v := nI (lenS.getD j 0)) hx hb (hSX.1.1 j hj).2.2.2 va_S.rf rfl dJ0_length_8abf5_4 ?_
  refine lv_aload_n hx hb dJ0_length_8abf5_5 rfl (lv_at hl 0 rfl) ?_
  refine MS.callV (rest := [.int (nI (lenS.getD j 0))]) hj [] B (ms_coder l base sa sv j hj) mv_S_coder mv_S_coderv ls_coder rfl ⟨by decide, by decide⟩ (Nat.le_of_ble_eq_true rfl) hl.1 dJ0_length_8abf5_6 ?_
  refine lv_ishr hx hb dJ0_length_8abf5_9 ?_
  rw [sb_shr0]
  exact W.iret hx hb hr (fun t ht _ => ⟨rfl, ht⟩) (fun _ h => by cases h) dJ0_length_8abf5_10 hlocks
theorem Ct.ofMS {y : MethodName} {cc : ByteArray} {nL : Nat} {ret : Option FieldType} {fr lo n : Nat} {av : List Value} {m : Mm} {r : Rr} {v : Int32}
    (h : ∀ (l : Launch) (base : Nat) (sa sv : Nat → Nat), MS l y cc nL ret fr lo (av.map (rv base sa)) base sa sv (some (.int v))) : Ct y cc nL ret fr lo av n n m r (rP m r (some v)) := by
  intro l D base cid sa sv x hx
  cases hx
  rw [Nat.sub_self, Nat.sub_self]
  intro p e ha hc hk s mi args below hf happ hP hK
  obtain ⟨k, o, h1, h2, h3, ⟨h4, h5⟩, L, h6, h7⟩ := h l base sa sv p e ha hc hk s mi args below hf happ ⟨hP.1, hP.2.2.2.2.2⟩ hK
  refine ⟨k, o, h1, h2, h3, ⟨h4, by rw [h5]; exact hP.2.2.1, by rw [h5]; exact Nat.le_refl _, fun q _ _ => by rw [h5]⟩, L, h6, fun q hq => (h7 q hq).elim⟩
theorem str_small : ∀ j, j < nS → lenS.getD j 0 < 2 ^ 31 ∧ ∀ i, i < lenS.getD j 0 → ((bytS.getD j []).getD i 0 &&& 255) = (bytS.getD j []).getD i 0 := by decide +kernel
theorem ct_J0_length {n : Nat} (m : Mm) (r : Rr) (j : UInt32) (hj : j.toNat < nS) : Ct yJ0_length_8abf5 cJ0_length_8abf5 1 (some .int) 1 20 [.float j] n n m r (rP m r (f_J0_length j)) :=
  Ct.ofMS (fun l base sa sv => ms_length l base sa sv j.toNat hj)
theorem ct_J0_charAt {n : Nat} (m : Mm) (r : Rr) (j : UInt32) (hj : j.toNat < nS) (i : Int32) : Ct yJ0_charAt_5068e cJ0_charAt_5068e 2 (some .char) 3 64 [.float j, .int i] n n m r (rP m r (f_J0_charAt j i)) := by
  unfold f_J0_charAt
  by_cases hi : i < 0 ∨ lenS.getD j.toNat 0 ≤ i.toNatClampNeg
  · rw [if_pos hi]
    intro l D base cid sa sv x hx
    cases hx
  · rw [if_neg hi]
    have hs := str_small j.toNat hj
    have hlt : i.toNatClampNeg < lenS.getD j.toNat 0 := Nat.not_le.mp (fun q => hi (Or.inr q))
    rw [← hs.2 i.toNatClampNeg hlt]
    exact Ct.ofMS (fun l base sa sv => ms_charAt l base sa sv j.toNat hj i hi hs.1)

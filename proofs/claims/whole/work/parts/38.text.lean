theorem dX8_text_0 : decode cX8_text 0 = .ok (.aload_n 0, 1) := by decide +kernel
theorem dX8_text_1 : decode cX8_text 1 = .ok (.getfield 10, 3) := by decide +kernel
theorem dX8_text_4 : decode cX8_text 4 = .ok (.aload_n 0, 1) := by decide +kernel
theorem dX8_text_5 : decode cX8_text 5 = .ok (.getfield 68, 3) := by decide +kernel
theorem dX8_text_8 : decode cX8_text 8 = .ok (.invokevirtual 87, 3) := by decide +kernel
theorem dX8_text_11 : decode cX8_text 11 = .ok (.aload_n 0, 1) := by decide +kernel
theorem dX8_text_12 : decode cX8_text 12 = .ok (.aload_n 0, 1) := by decide +kernel
theorem dX8_text_13 : decode cX8_text 13 = .ok (.getfield 10, 3) := by decide +kernel
theorem dX8_text_16 : decode cX8_text 16 = .ok (.getfield 90, 3) := by decide +kernel
theorem dX8_text_19 : decode cX8_text 19 = .ok (.putfield 94, 3) := by decide +kernel
theorem dX8_text_22 : decode cX8_text 22 = .ok (.aload_n 0, 1) := by decide +kernel
theorem dX8_text_23 : decode cX8_text 23 = .ok (.getfield 94, 3) := by decide +kernel
theorem dX8_text_26 : decode cX8_text 26 = .ok (.ifCond .eq 14, 3) := by decide +kernel
theorem dX8_text_29 : decode cX8_text 29 = .ok (.bipush (-10), 2) := by decide +kernel
theorem dX8_text_31 : decode cX8_text 31 = .ok (.aload_n 0, 1) := by decide +kernel
theorem dX8_text_32 : decode cX8_text 32 = .ok (.getfield 10, 3) := by decide +kernel
theorem dX8_text_35 : decode cX8_text 35 = .ok (.getfield 97, 3) := by decide +kernel
theorem dX8_text_38 : decode cX8_text 38 = .ok (.isub, 1) := by decide +kernel
theorem dX8_text_39 : decode cX8_text 39 = .ok (.ireturn, 1) := by decide +kernel
theorem dX8_text_40 : decode cX8_text 40 = .ok (.aload_n 0, 1) := by decide +kernel
theorem dX8_text_41 : decode cX8_text 41 = .ok (.getfield 64, 3) := by decide +kernel
theorem dX8_text_44 : decode cX8_text 44 = .ok (.astore_n 1, 1) := by decide +kernel
theorem dX8_text_45 : decode cX8_text 45 = .ok (.aload_n 0, 1) := by decide +kernel
theorem dX8_text_46 : decode cX8_text 46 = .ok (.aload_n 0, 1) := by decide +kernel
theorem dX8_text_47 : decode cX8_text 47 = .ok (.getfield 68, 3) := by decide +kernel
theorem dX8_text_50 : decode cX8_text 50 = .ok (.putfield 64, 3) := by decide +kernel
theorem dX8_text_53 : decode cX8_text 53 = .ok (.aload_n 0, 1) := by decide +kernel
theorem dX8_text_54 : decode cX8_text 54 = .ok (.aload_n 1, 1) := by decide +kernel
theorem dX8_text_55 : decode cX8_text 55 = .ok (.putfield 68, 3) := by decide +kernel
theorem dX8_text_58 : decode cX8_text 58 = .ok (.aload_n 0, 1) := by decide +kernel
theorem dX8_text_59 : decode cX8_text 59 = .ok (.getfield 19, 3) := by decide +kernel
theorem dX8_text_62 : decode cX8_text 62 = .ok (.aload_n 0, 1) := by decide +kernel
theorem dX8_text_63 : decode cX8_text 63 = .ok (.getfield 64, 3) := by decide +kernel
theorem dX8_text_66 : decode cX8_text 66 = .ok (.invokevirtual 75, 3) := by decide +kernel
theorem dX8_text_69 : decode cX8_text 69 = .ok (.aload_n 0, 1) := by decide +kernel
theorem dX8_text_70 : decode cX8_text 70 = .ok (.invokevirtual 100, 3) := by decide +kernel
theorem dX8_text_73 : decode cX8_text 73 = .ok (.aload_n 0, 1) := by decide +kernel
theorem dX8_text_74 : decode cX8_text 74 = .ok (.getfield 37, 3) := by decide +kernel
theorem dX8_text_77 : decode cX8_text 77 = .ok (.invokevirtual 103, 3) := by decide +kernel
theorem dX8_text_80 : decode cX8_text 80 = .ok (.aload_n 0, 1) := by decide +kernel
theorem dX8_text_81 : decode cX8_text 81 = .ok (.getfield 10, 3) := by decide +kernel
theorem dX8_text_84 : decode cX8_text 84 = .ok (.getfield 106, 3) := by decide +kernel
theorem dX8_text_87 : decode cX8_text 87 = .ok (.ireturn, 1) := by decide +kernel
theorem fl_8_68 : FL RX8 68 8 10 := ⟨by decide, by decide, tb 431 (by decide +kernel) rfl⟩
theorem mv_X2_parse : MV yX2_parse cX2_parse 3 none 1 := ⟨tb 484 (by decide +kernel) rfl, tb 2 (by decide +kernel) rfl, by decide +kernel⟩
theorem mv_X2_parsev : Cond.instanceMethod yX2_parse ∈ TBg ∧ Cond.selects yX2_parse.cls yX2_parse yX2_parse ∈ TBg := ⟨tb 482 (by decide +kernel) rfl, tb 483 (by decide +kernel) rfl⟩
theorem lk_8_87 : Cond.methodLink RX8 87 yX2_parse ∈ TBg := tb 481 (by decide +kernel) rfl
theorem fl_8_90 : FL RX8 90 2 3 := ⟨by decide, by decide, tb 38 (by decide +kernel) rfl⟩
theorem mv_X7_startFrom : MV yX7_startFrom cX7_startFrom 2 none 1 := ⟨tb 399 (by decide +kernel) rfl, tb 3 (by decide +kernel) rfl, by decide +kernel⟩
theorem mv_X7_startFromv : Cond.instanceMethod yX7_startFrom ∈ TBg ∧ Cond.selects yX7_startFrom.cls yX7_startFrom yX7_startFrom ∈ TBg := ⟨tb 397 (by decide +kernel) rfl, tb 398 (by decide +kernel) rfl⟩
theorem lk_8_75 : Cond.methodLink RX8 75 yX7_startFrom ∈ TBg := tb 396 (by decide +kernel) rfl
theorem mv_X8_forgetImages : MV yX8_forgetImages cX8_forgetImages 2 none 0 := ⟨tb 602 (by decide +kernel) rfl, tb 1 (by decide +kernel) rfl, by decide +kernel⟩
theorem mv_X8_forgetImagesv : Cond.instanceMethod yX8_forgetImages ∈ TBg ∧ Cond.selects yX8_forgetImages.cls yX8_forgetImages yX8_forgetImages ∈ TBg := ⟨tb 601 (by decide +kernel) rfl, tbP (k := 13) 13 (by decide +kernel) rfl⟩
theorem lk_8_100 : Cond.methodLink RX8 100 yX8_forgetImages ∈ TBg := tb 599 (by decide +kernel) rfl
theorem fl_8_106 : FL RX8 106 2 2 := ⟨by decide, by decide, tb 36 (by decide +kernel) rfl⟩
theorem fl_8_97 : FL RX8 97 2 4 := ⟨by decide, by decide, tb 40 (by decide +kernel) rfl⟩
abbrev Tx : Type := Int32 × Mm × Nat × Nat × Option Nat
def rT (o : Option Tx) : Option Res := o.map (fun q => (some (.int q.1), q.2.1, RF q.2.2.1 q.2.2.2.1 q.2.2.2.2))
theorem RF_plan {P D q : Nat} {T : Option Nat} : upR (RF P D T) 0 9 (some q) = RF q D T := by
  funext a k
  by_cases ha : a = 0
  · subst ha
    rw [upR_self]
    by_cases hk : k = 9
    · subst hk
      simp [va_up, RF]
    · simp [va_up, RF, hk]
  · rw [upR_ne ha]
    simp [RF, ha]
theorem RF_draft {P D q : Nat} {T : Option Nat} : upR (RF P D T) 0 10 (some q) = RF P q T := by
  funext a k
  by_cases ha : a = 0
  · subst ha
    rw [upR_self]
    by_cases hk : k = 10
    · subst hk
      simp [va_up, RF]
    · simp [va_up, RF, hk]
  · rw [upR_ne ha]
    simp [RF, ha]
section JX
variable {own : String} {cc : ByteArray} {nL : Nat} {ret : Option FieldType} {nm : String} {fr lo n0 nf : Nat} {pc : Nat} {lv : List (Nat × Value)} {st : List Value} {n : Nat} {m : Mm} {r : Rr} {σ : Type} {o : Option σ} {k : σ → Option Res}
theorem J_callVVr {ix : Nat} {y : MethodName} {bytes : ByteArray} {maxL : Nat} {rt : Option FieldType} {frc loc : Nat} {r1 : Rr} {oi : Option Mm} {f : Mm → Option σ} (a ci np : Nat) (As : List Value) (hd : decode cc pc = .ok (.invokevirtual ix, 3)) (hM : MV y bytes maxL rt np) (hv : Cond.instanceMethod y ∈ TBg ∧ Cond.selects y.cls y y ∈ TBg) (hl1 : Cond.methodLink own ix y ∈ TBg) (hC : Ct y bytes maxL rt frc loc (.ref a :: As) n n m r (rV r1 oi)) (hlen : As.length = np) (hL : (LAY a).1 = ci) (hci : ci < 10) (hcn : CN ci = y.cls) (ha : a < n) (hfr : frc + 1 ≤ fr ∧ 8 + (maxL + 11) + loc ≤ lo) (hst : (st.map fun v => v.category).sum ≤ 8) (h : ∀ m1, J own cc nL ret nm fr lo n0 nf (pc + 3) (lv) (st) (n) (m1) (r1) (f m1) (k)) : J own cc nL ret nm fr lo n0 nf (pc) (lv) (As.reverse ++ .ref a :: st) (n) (m) (r) (oi.bind f) (k) := by
  intro p l e R s mi args below meth c D base cid sa sv H locs ls x C hP hS hl hn hf hx
  refine J_callV (k := k) (oc := rV r1 oi) (f := fun q => f q.2.1) a ci np As hd hM hv hl1 hC hlen hL hci hcn ha hfr hst ⟨Nat.le_refl n, hf⟩ (fun v m1 r1 he => ?_) p l e R s mi args below meth c D base cid sa sv H locs ls x C hP hS hl hn hf ?_
  · cases oi with
    | none => cases he
    | some z =>
      cases he
      exact h _
  · rw [← hx]
    cases oi with
    | none => rfl
    | some z => rfl
theorem J_iretT {v : Int32} {P D : Nat} {T : Option Nat} (hd : decode cc pc = .ok (.ireturn, 1)) (hr : ret = some .int) (hnf : n = nf) : J own cc nL ret nm fr lo n0 nf pc lv [.int v] n m (RF P D T) (some ((v, m, P, D, T) : Tx)) (fun q : Tx => some ((some (.int q.1), q.2.1, RF q.2.2.1 q.2.2.2.1 q.2.2.2.2) : Res)) := J_iret (lv := lv) hd hr hnf
theorem Ct.ofT {y : MethodName} {av : List Value} {oi : Option Tx} (lw : List (Nat × Value)) (hy : plainName y.cls = true) (hav : (lg_sl av).length ≤ nL) (hown : y.cls = own) (hnm : y.name = nm) (hlv : lv_args 0 av = lw) (h : J own cc nL ret nm fr lo n n 0 lw [] n m r oi (fun q : Tx => some ((some (.int q.1), q.2.1, RF q.2.2.1 q.2.2.2.1 q.2.2.2.2) : Res))) : Ct y cc nL ret fr lo av n n m r (rT oi) := by
  subst hown; subst hnm; subst hlv
  refine Ct.of hy (Nat.le_refl _) hav ?_
  intro p l e R s mi args below meth c D base cid sa sv H locs ls x C hP hS hl hn hf hx
  refine h p l e R s mi args below meth c D base cid sa sv H locs ls x C hP hS hl hn hf ?_
  rw [← hx]
  cases oi <;> rfl
end JX
def f_X8_text (F : Nat) (m : Mm) (P D : Nat) : Option Tx :=
  (f_X2_parse F m D).bind fun m1 => letv (up2 m1 0 11 (m1 1 3)) fun m2 => if m2 0 11 = 0 then ((f_X7_startFrom F m2 4 D).bind fun m3 => (f_X8_forgetImages F m3).bind fun m4 => (f_X4_forget m4).bind fun m5 => some (m5 1 2, m5, D, P, some D)) else (some ((-10 : Int32) - m2 1 4, m2, P, D, some D))
set_option maxHeartbeats 4000000 in
set_option maxRecDepth 100000 in
theorem ct_X8_text (F : Nat) {n : Nat} (hn : 113 ≤ n) (P D : Nat) (T : Option Nat) (hD : isPl D) (m : Mm) : Ct yX8_text cX8_text 2 (some .int) 7 151 [.ref 0] n n m (RF P D T) (rT (f_X8_text F m P D)) := by
  refine Ct.ofT (own := RX8) (nm := "text") [(0, .ref 0)] (by decide) (Nat.le_of_ble_eq_true rfl) rfl rfl rfl ?_
  unfold f_X8_text
  refine J_aload_n 0 0 0 dX8_text_0 rfl rfl ?_
  refine J_getR 0 8 0 1 dX8_text_1 fl_8_10 rfl rfl (Nat.lt_of_lt_of_le (Nat.le_of_ble_eq_true rfl) hn) rfl ?_
  refine J_aload_n 0 0 0 dX8_text_4 rfl rfl ?_
  refine J_getR 0 8 10 D dX8_text_5 fl_8_68 rfl rfl (Nat.lt_of_lt_of_le (Nat.le_of_ble_eq_true rfl) hn) rfl ?_
  refine J_callVVr 1 2 1 [.ref D] dX8_text_8 mv_X2_parse mv_X2_parsev lk_8_87 (ct_X2_parse F hn P D T m D hD) rfl rfl (by decide) rfl (Nat.lt_of_lt_of_le (Nat.le_of_ble_eq_true rfl) hn) ⟨by decide, by decide⟩ (Nat.le_of_ble_eq_true rfl) (fun m1 => ?_)
  refine J_aload_n 0 0 0 dX8_text_11 rfl rfl ?_
  refine J_aload_n 0 0 0 dX8_text_12 rfl rfl ?_
  refine J_getR 0 8 0 1 dX8_text_13 fl_8_10 rfl rfl (Nat.lt_of_lt_of_le (Nat.le_of_ble_eq_true rfl) hn) rfl ?_
  refine J_getI 1 2 3 dX8_text_16 fl_8_90 rfl rfl (Nat.lt_of_lt_of_le (Nat.le_of_ble_eq_true rfl) hn) ?_
  refine J_putI 0 8 11 dX8_text_19 fl_8_94 rfl rfl (Nat.lt_of_lt_of_le (Nat.le_of_ble_eq_true rfl) hn) rfl rfl rfl (fun m2 => ?_)
  refine J_aload_n 0 0 0 dX8_text_22 rfl rfl ?_
  refine J_getI 0 8 11 dX8_text_23 fl_8_94 rfl rfl (Nat.lt_of_lt_of_le (Nat.le_of_ble_eq_true rfl) hn) ?_
  refine J_if_eq 40 dX8_text_26 (by decide) ?_ ?_
  · refine J_aload_n 0 0 0 dX8_text_40 rfl rfl ?_
    refine J_getR 0 8 9 P dX8_text_41 fl_8_64 rfl rfl (Nat.lt_of_lt_of_le (Nat.le_of_ble_eq_true rfl) hn) rfl ?_
    refine J_astore_n 1 [(1, .ref P), (0, .ref 0)] dX8_text_44 rfl (by decide) rfl ?_
    refine J_aload_n 0 1 0 dX8_text_45 rfl rfl ?_
    refine J_aload_n 0 1 0 dX8_text_46 rfl rfl ?_
    refine J_getR 0 8 10 D dX8_text_47 fl_8_68 rfl rfl (Nat.lt_of_lt_of_le (Nat.le_of_ble_eq_true rfl) hn) rfl ?_
    refine J_putR 0 8 9 D dX8_text_50 fl_8_64 rfl rfl (Nat.lt_of_lt_of_le (Nat.le_of_ble_eq_true rfl) hn) rfl (fun _ => rfl) (fun _ => rfl) ?_
    rw [RF_plan]
    refine J_aload_n 0 1 0 dX8_text_53 rfl rfl ?_
    refine J_aload_n 1 0 P dX8_text_54 rfl rfl ?_
    refine J_putR 0 8 10 P dX8_text_55 fl_8_68 rfl rfl (Nat.lt_of_lt_of_le (Nat.le_of_ble_eq_true rfl) hn) rfl (fun _ => rfl) (fun _ => rfl) ?_
    rw [RF_draft]
    refine J_aload_n 0 1 0 dX8_text_58 rfl rfl ?_
    refine J_getR 0 8 1 4 dX8_text_59 fl_8_19 rfl rfl (Nat.lt_of_lt_of_le (Nat.le_of_ble_eq_true rfl) hn) rfl ?_
    refine J_aload_n 0 1 0 dX8_text_62 rfl rfl ?_
    refine J_getR 0 8 9 D dX8_text_63 fl_8_64 rfl rfl (Nat.lt_of_lt_of_le (Nat.le_of_ble_eq_true rfl) hn) rfl ?_
    refine J_callVV 4 7 1 [.ref D] dX8_text_66 mv_X7_startFrom mv_X7_startFromv lk_8_75 (ct_X7_startFrom F hn D P (some D) m2 4 (by simp [isSt]) D hD) rfl rfl (by decide) rfl (Nat.lt_of_lt_of_le (Nat.le_of_ble_eq_true rfl) hn) ⟨by decide, by decide⟩ (Nat.le_of_ble_eq_true rfl) (fun m3 => ?_)
    refine J_aload_n 0 1 0 dX8_text_69 rfl rfl ?_
    refine J_callVV 0 8 0 [] dX8_text_70 mv_X8_forgetImages mv_X8_forgetImagesv lk_8_100 (ct_X8_forgetImages F hn D P (some D) m3) rfl rfl (by decide) rfl (Nat.lt_of_lt_of_le (Nat.le_of_ble_eq_true rfl) hn) ⟨by decide, by decide⟩ (Nat.le_of_ble_eq_true rfl) (fun m4 => ?_)
    refine J_aload_n 0 1 0 dX8_text_73 rfl rfl ?_
    refine J_getR 0 8 5 34 dX8_text_74 fl_8_37 rfl rfl (Nat.lt_of_lt_of_le (Nat.le_of_ble_eq_true rfl) hn) rfl ?_
    refine J_callVV 34 4 0 [] dX8_text_77 mv_X4_forget mv_X4_forgetv lk_8_103 (ct_X4_forget F hn D P (some D) m4) rfl rfl (by decide) rfl (Nat.lt_of_lt_of_le (Nat.le_of_ble_eq_true rfl) hn) ⟨by decide, by decide⟩ (Nat.le_of_ble_eq_true rfl) (fun m5 => ?_)
    refine J_aload_n 0 1 0 dX8_text_80 rfl rfl ?_
    refine J_getR 0 8 0 1 dX8_text_81 fl_8_10 rfl rfl (Nat.lt_of_lt_of_le (Nat.le_of_ble_eq_true rfl) hn) rfl ?_
    refine J_getI 1 2 2 dX8_text_84 fl_8_106 rfl rfl (Nat.lt_of_lt_of_le (Nat.le_of_ble_eq_true rfl) hn) ?_
    exact J_iretT dX8_text_87 rfl rfl
  · refine J_bipush (-10) dX8_text_29 (by decide) ?_
    refine J_aload_n 0 0 0 dX8_text_31 rfl rfl ?_
    refine J_getR 0 8 0 1 dX8_text_32 fl_8_10 rfl rfl (Nat.lt_of_lt_of_le (Nat.le_of_ble_eq_true rfl) hn) rfl ?_
    refine J_getI 1 2 4 dX8_text_35 fl_8_97 rfl rfl (Nat.lt_of_lt_of_le (Nat.le_of_ble_eq_true rfl) hn) ?_
    refine J_isub dX8_text_38 ?_
    exact J_iretT dX8_text_39 rfl rfl
